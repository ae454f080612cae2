/** Promises 12 to 20: the values that can be asked for. */
public final class ValuesTest {
    private ValuesTest() {
    }

    public static void main(String[] args) {
        car();
        wheel();
        friction();
        frictionFor();
        segment();
        planned();
        event();
        latestFortyEvents();
        Check.end();
    }

    private static AntilockBrakes iceStop() {
        AntilockBrakes x = new AntilockBrakes();
        x.addSegment(0, 2, 2);
        x.setSpeed(20000);
        x.setDemand(1500);
        x.run(40);
        return x;
    }

    private static void car() {
        AntilockBrakes x = iceStop();
        Check.due("car(-1)", Check.ARGUMENT, () -> x.car(-1));
        Check.due("car(10)", Check.ARGUMENT, () -> x.car(10));
        Check.due("V", 19564, () -> x.car(0));
        Check.due("time", 40, () -> x.car(2));
        Check.due("demand", 1500, () -> x.car(3));
        Check.due("accumulator", 580, () -> x.car(5));
        Check.due("active", 1, () -> x.car(8));
        Check.due("on", 1, () -> x.car(9));
    }

    private static void wheel() {
        AntilockBrakes x = iceStop();
        Check.due("wheel(-1, 0)", Check.INDEX, () -> x.wheel(-1, 0));
        Check.due("wheel(4, 0)", Check.INDEX, () -> x.wheel(4, 0));
        Check.due("wheel(0, -1)", Check.ARGUMENT, () -> x.wheel(0, -1));
        Check.due("wheel(0, 12)", Check.ARGUMENT, () -> x.wheel(0, 12));
        Check.due("wheel(4, 12)", Check.INDEX, () -> x.wheel(4, 12));
        for (int i = 0; i < 4; i++) {
            int w = i;
            int v = x.car(0);
            int r = x.car(4);
            Check.due("slip", Math.floorDiv(1000 * (v - x.wheel(w, 0)), v), () -> x.wheel(w, 9));
            Check.due("estimated slip", Math.max(0, Math.floorDiv(1000 * (r - x.wheel(w, 0)), r)),
                    () -> x.wheel(w, 10));
        }
    }

    private static void friction() {
        AntilockBrakes x = new AntilockBrakes();
        Check.due("friction(-1)", Check.INDEX, () -> x.friction(-1));
        Check.due("friction(4)", Check.INDEX, () -> x.friction(4));
        AntilockBrakes slides = SetUpTest.locked(1);
        for (int i = 0; i < 4; i++) {
            int w = i;
            Check.due("wet slide", 420, () -> slides.friction(w));
        }
        slides.addSegment(slides.car(1), 0, 2);
        long[] want = {750, 90, 750, 90};
        for (int i = 0; i < 4; i++) {
            int w = i;
            Check.due("slide by side", want[i], () -> slides.friction(w));
        }
    }

    private static void frictionFor() {
        AntilockBrakes x = new AntilockBrakes();
        Check.due("frictionFor(-1, 0)", Check.ARGUMENT, () -> x.frictionFor(-1, 0));
        Check.due("frictionFor(3, 0)", Check.ARGUMENT, () -> x.frictionFor(3, 0));
        Check.due("frictionFor(0, -1)", Check.ARGUMENT, () -> x.frictionFor(0, -1));
        Check.due("frictionFor(0, 1001)", Check.ARGUMENT, () -> x.frictionFor(0, 1001));
        long[][] want = {{0, 6, 1000, 1000, 875, 750}, {0, 4, 600, 600, 510, 420}, {0, 1, 150, 150, 120, 90}};
        int[] slips = {0, 1, 150, 151, 575, 1000};
        for (int i = 0; i < 3; i++) {
            for (int k = 0; k < slips.length; k++) {
                int surface = i;
                int slip = slips[k];
                Check.due("frictionFor(" + i + ", " + slip + ")", want[i][k], () -> x.frictionFor(surface, slip));
            }
        }
        Check.due("frictionFor(0, 154)", 999, () -> x.frictionFor(0, 154));
        Check.due("frictionFor(0, 153)", 1000, () -> x.frictionFor(0, 153));
    }

    private static void segment() {
        AntilockBrakes x = new AntilockBrakes();
        x.addSegment(50, 1, 2);
        Check.due("segments", 2, x::segments);
        Check.due("segment(-1, 0)", Check.INDEX, () -> x.segment(-1, 0));
        Check.due("segment(2, 0)", Check.INDEX, () -> x.segment(2, 0));
        Check.due("segment(2, 3)", Check.INDEX, () -> x.segment(2, 3));
        Check.due("segment(1, -1)", Check.ARGUMENT, () -> x.segment(1, -1));
        Check.due("segment(1, 3)", Check.ARGUMENT, () -> x.segment(1, 3));
        Check.due("segment(1, 0)", 50, () -> x.segment(1, 0));
        Check.due("segment(1, 1)", 1, () -> x.segment(1, 1));
        Check.due("segment(1, 2)", 2, () -> x.segment(1, 2));
    }

    private static void planned() {
        AntilockBrakes x = new AntilockBrakes();
        for (int i = 1; i <= 10; i++) {
            x.plan(i, i);
            Check.due("planned", i, x::planned);
        }
        for (int i = 9; i >= 0; i--) {
            x.run(1);
            Check.due("planned", i, x::planned);
        }
    }

    private static void event() {
        AntilockBrakes x = new AntilockBrakes();
        Check.due("no event(0, 0)", Check.INDEX, () -> x.event(0, 0));
        AntilockBrakes ice = iceStop();
        int count = ice.events();
        Check.due("event(-1, 0)", Check.INDEX, () -> ice.event(-1, 0));
        Check.due("event(count, 0)", Check.INDEX, () -> ice.event(count, 0));
        Check.due("event(count, 3)", Check.INDEX, () -> ice.event(count, 3));
        Check.due("event(0, -1)", Check.ARGUMENT, () -> ice.event(0, -1));
        Check.due("event(0, 3)", Check.ARGUMENT, () -> ice.event(0, 3));
        for (int i = 1; i < count; i++) {
            Check.same("the oldest event first", 1, Check.number(ice.event(i - 1, 0) <= ice.event(i, 0)));
        }
    }

    // All four sensors fail and come back in turn, so that the times and values of the events are known.
    private static void latestFortyEvents() {
        AntilockBrakes x = new AntilockBrakes();
        x.setSpeed(60000);
        for (int round = 1; round <= 11; round++) {
            for (int wheel = 0; wheel < 4; wheel++) {
                x.setFault(wheel, true);
            }
            x.run(25);
            Check.due("events", Math.min(4 * round, 40), x::events);
            x.repair();
            x.setSpeed(60000);
        }
        for (int i = 0; i < 40; i++) {
            int index = i;
            Check.due("time of event " + i, 25 * (i / 4 + 2), () -> x.event(index, 0));
            Check.due("kind of event " + i, AntilockBrakes.EXCLUDED, () -> x.event(index, 1));
            Check.due("value of event " + i, i % 4, () -> x.event(index, 2));
        }
        Check.due("event(40, 0)", Check.INDEX, () -> x.event(40, 0));
    }
}
