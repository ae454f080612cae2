import java.util.ArrayList;
import java.util.List;

/**
 * The boundary cases of promises 1 to 8: arguments at the ends of their ranges and beyond, what is empty and what is
 * full, and refused calls. A method for each sentence that names one.
 */
public final class BoundarySetUpTest {
    private static final int MIN = Integer.MIN_VALUE, MAX = Integer.MAX_VALUE;

    private BoundarySetUpTest() {
    }

    public static void main(String[] args) {
        newObject();
        speed();
        speedSetsAnew();
        speedKeepsTheRest();
        segmentStart();
        segmentStartFarAway();
        segmentSurfaces();
        segmentReplaced();
        segmentsFull();
        demand();
        planDelay();
        planDemand();
        planOrder();
        planFull();
        fault();
        switching();
        repair();
        Check.end();
    }

    private static void newObject() {
        Check.sentence("Creates a car that stands still, as described, with an empty plan, all counts 0, and an empty "
                + "undo stack.");
        AntilockBrakes x = new AntilockBrakes();
        long[] car = {0, 0, 0, 0, 0, 0, 0, 150, 0, 1};
        for (int i = 0; i < car.length; i++) {
            int what = i;
            Check.due("car(" + i + ")", car[i], () -> x.car(what));
        }
        for (int i = 0; i < 4 * 12; i++) {
            int wheel = i / 12;
            int what = i % 12;
            Check.due("wheel(" + wheel + ", " + what + ")", 0, () -> x.wheel(wheel, what));
        }
        Check.due("segments()", 1, x::segments);
        Check.due("planned()", 0, x::planned);
        Check.due("events()", 0, x::events);
        Check.refused("undo()", Check.STATE, x, x::undo);
    }

    private static void speed() {
        Check.sentence("speed: 0 to 60000 .. Throws IllegalArgumentException if speed is out of range");
        AntilockBrakes x = new AntilockBrakes();
        for (int wrong : new int[] {-1, 60001, MIN, MAX}) {
            Check.refused("setSpeed(" + wrong + ")", Check.ARGUMENT, x, () -> x.setSpeed(wrong));
        }
        Check.due("setSpeed(60000)", 0, () -> x.setSpeed(60000));
        Check.due("setSpeed(0)", 60000, () -> x.setSpeed(0));
        Check.due("setSpeed(1)", 0, () -> x.setSpeed(1));
        Check.due("setSpeed(1) again", 1, () -> x.setSpeed(1));
        Check.refused("setSpeed(60001) with three saved states", Check.ARGUMENT, x, () -> x.setSpeed(60001));
    }

    /** A car in the midst of a stop on ice, a sensor of which is faulty but not yet excluded for it. */
    private static AntilockBrakes midst() {
        AntilockBrakes x = new AntilockBrakes();
        x.addSegment(0, 2, 2);
        x.setSpeed(20000);
        x.setFault(3, true);
        x.run(25);
        x.setFault(2, true);
        x.setDemand(1500);
        x.plan(4000, 3);
        x.run(18);
        return x;
    }

    private static void speedSetsAnew() {
        Check.sentence("V, each W and R become this speed, all pressures, phases, phase ticks and suspicions and the "
                + "accumulator 0, the yaw allowance 150, and no measured value is kept");
        for (int speed : new int[] {0, 60000}) {
            AntilockBrakes x = midst();
            Check.yes("there is something to set anew", x.wheel(0, 1) > 0 && x.wheel(0, 2) > 0 && x.wheel(3, 3) > 0
                    && x.wheel(2, 8) > 0 && x.car(5) > 0 && x.car(7) > 150 && x.wheel(2, 10) > 0 && x.wheel(0, 11) < 0);
            x.setSpeed(speed);
            Check.due("V", speed, () -> x.car(0));
            Check.due("R", speed, () -> x.car(4));
            Check.due("the accumulator", 0, () -> x.car(5));
            Check.due("the yaw allowance", 150, () -> x.car(7));
            for (int i = 0; i < 4; i++) {
                int wheel = i;
                Check.due("W", speed, () -> x.wheel(wheel, 0));
                for (int what : new int[] {1, 2, 3, 8, 9, 10, 11}) {
                    Check.due("wheel(" + i + ", " + what + ")", 0, () -> x.wheel(wheel, what));
                }
            }
            x.run(1);
            Check.due("A with the first value after it", 0, () -> x.wheel(2, 11));
        }
    }

    private static void speedKeepsTheRest() {
        Check.sentence("Position, road, counters, excluded wheels and everything else stay.");
        AntilockBrakes x = midst();
        List<Long> before = kept(x);
        x.setSpeed(0);
        List<Long> after = kept(x);
        for (int i = 0; i < before.size(); i++) {
            Check.same("value " + i, before.get(i), after.get(i));
        }
        Check.due("the faults", 1, () -> Check.number(x.setFault(2, false)));
        Check.due("the excluded wheel", 1, x::repair);
    }

    private static List<Long> kept(AntilockBrakes x) {
        List<Long> values = new ArrayList<>();
        for (int what : new int[] {1, 2, 3, 6, 9}) {
            values.add((long) x.car(what));
        }
        for (int what : new int[] {4, 5, 6, 7}) {
            for (int wheel = 0; wheel < 4; wheel++) {
                values.add((long) x.wheel(wheel, what));
            }
        }
        values.add((long) x.segments());
        values.add((long) x.segment(0, 1));
        values.add((long) x.planned());
        values.add((long) x.events());
        return values;
    }

    private static void segmentStart() {
        Check.sentence("start: at least X, at most 100000000");
        AntilockBrakes x = new AntilockBrakes();
        for (int wrong : new int[] {-1, 100000001, MIN, MAX}) {
            Check.refused("addSegment(" + wrong + ")", Check.ARGUMENT, x, () -> x.addSegment(wrong, 0, 0));
        }
        Check.due("addSegment(0)", 1, () -> x.addSegment(0, 1, 1));
        x.setSpeed(300);
        x.run(1);
        Check.refused("addSegment(X - 1)", Check.ARGUMENT, x, () -> x.addSegment(2, 0, 0));
        Check.refused("addSegment(0), a start of the road", Check.ARGUMENT, x, () -> x.addSegment(0, 0, 0));
        Check.due("addSegment(X)", 2, () -> x.addSegment(3, 0, 0));
        Check.due("addSegment(X + 1)", 3, () -> x.addSegment(4, 0, 0));
        Check.due("addSegment(100000000)", 4, () -> x.addSegment(100000000, 2, 2));
    }

    // 33 stops of 5000 ticks, then 1666 ticks, all at 600 millimetres, then one of 400.
    private static void segmentStartFarAway() {
        Check.sentence("at least X, at most 100000000");
        AntilockBrakes x = new AntilockBrakes();
        x.addSegment(100000000, 2, 1);
        x.setSpeed(60000);
        for (int i = 0; i < 33; i++) {
            x.stop();
        }
        x.run(1000);
        x.run(666);
        x.setSpeed(40000);
        Check.due("the last segment is still ahead", 2, x::segments);
        x.run(1);
        Check.due("X", 100000000, () -> x.car(1));
        Check.due("the last segment is the present one", 1, x::segments);
        Check.due("addSegment(100000000) at X", 1, () -> x.addSegment(100000000, 1, 1));
        x.setSpeed(100);
        x.run(1);
        Check.due("X", 100000001, () -> x.car(1));
        Check.refused("addSegment(X) beyond", Check.ARGUMENT, x, () -> x.addSegment(100000001, 0, 0));
        Check.refused("addSegment(100000000) beyond", Check.ARGUMENT, x, () -> x.addSegment(100000000, 0, 0));
        Check.due("the road stays", 1, () -> x.segment(0, 2));
    }

    private static void segmentSurfaces() {
        Check.sentence("left: surface of the left side .. right: surface of the right side .. Throws "
                + "IllegalArgumentException if an argument is out of range");
        AntilockBrakes x = new AntilockBrakes();
        for (int wrong : new int[] {-1, 3, MIN, MAX}) {
            Check.refused("left " + wrong, Check.ARGUMENT, x, () -> x.addSegment(5, wrong, 0));
            Check.refused("right " + wrong, Check.ARGUMENT, x, () -> x.addSegment(5, 0, wrong));
        }
        for (int left = 0; left < 3; left++) {
            for (int right = 0; right < 3; right++) {
                x.addSegment(0, left, right);
                Check.due("left", left, () -> x.segment(0, 1));
                Check.due("right", right, () -> x.segment(0, 2));
            }
        }
    }

    private static void segmentReplaced() {
        Check.sentence("A segment with the same start is replaced.");
        AntilockBrakes x = new AntilockBrakes();
        Check.due("addSegment(9)", 2, () -> x.addSegment(9, 1, 2));
        Check.due("addSegment(9) again", 2, () -> x.addSegment(9, 2, 1));
        Check.due("left", 2, () -> x.segment(1, 1));
        Check.due("right", 1, () -> x.segment(1, 2));
        Check.due("addSegment(8)", 3, () -> x.addSegment(8, 0, 0));
        Check.due("addSegment(10)", 4, () -> x.addSegment(10, 0, 0));
        Check.due("addSegment(0) replaces the first one", 4, () -> x.addSegment(0, 1, 1));
    }

    private static void segmentsFull() {
        Check.sentence("Throws IllegalStateException if there would be more than 12 segments");
        AntilockBrakes x = new AntilockBrakes();
        for (int i = 1; i < 11; i++) {
            x.addSegment(100 * i, 1, 1);
        }
        Check.due("the twelfth", 12, () -> x.addSegment(1100, 1, 1));
        for (int start : new int[] {1, 550, 100000000}) {
            Check.refused("the thirteenth at " + start, Check.STATE, x, () -> x.addSegment(start, 0, 0));
        }
        Check.refused("a wrong thirteenth", Check.ARGUMENT, x, () -> x.addSegment(100000001, 0, 0));
        Check.refused("another wrong thirteenth", Check.ARGUMENT, x, () -> x.addSegment(550, 0, 3));
        for (int i = 0; i < 12; i++) {
            int start = 100 * i;
            Check.due("one of twelve replaced", 12, () -> x.addSegment(start, 2, 2));
        }
        x.setSpeed(10000);
        x.run(1);
        Check.due("one is left behind", 11, x::segments);
        Check.due("there is room again", 12, () -> x.addSegment(550, 0, 0));
    }

    private static void demand() {
        Check.sentence("demand: 0 to 2000 .. Throws IllegalArgumentException if demand is out of range");
        AntilockBrakes x = new AntilockBrakes();
        for (int wrong : new int[] {-1, 2001, MIN, MAX}) {
            Check.refused("setDemand(" + wrong + ")", Check.ARGUMENT, x, () -> x.setDemand(wrong));
        }
        Check.due("setDemand(2000)", 0, () -> x.setDemand(2000));
        Check.due("the demand at once", 2000, () -> x.car(3));
        Check.due("setDemand(0)", 2000, () -> x.setDemand(0));
        Check.due("the demand at once", 0, () -> x.car(3));
    }

    private static void planDelay() {
        Check.sentence("delay: 1 to 5000");
        AntilockBrakes x = new AntilockBrakes();
        for (int wrong : new int[] {0, -1, 5001, MIN, MAX}) {
            Check.refused("plan(" + wrong + ", 1)", Check.ARGUMENT, x, () -> x.plan(wrong, 1));
        }
        x.run(7);
        Check.due("plan(5000, 9)", 1, () -> x.plan(5000, 9));
        Check.due("plan(1, 8)", 2, () -> x.plan(1, 8));
        x.run(1);
        Check.due("the least delay", 8, () -> x.car(3));
        for (int i = 0; i < 4; i++) {
            x.run(1000);
        }
        x.run(998);
        Check.due("a tick before the greatest delay", 8, () -> x.car(3));
        Check.due("planned()", 1, x::planned);
        x.run(1);
        Check.due("the greatest delay", 9, () -> x.car(3));
        Check.due("planned()", 0, x::planned);
    }

    private static void planDemand() {
        Check.sentence("demand: 0 to 2000 .. Throws IllegalArgumentException if an argument is out of range");
        AntilockBrakes x = new AntilockBrakes();
        for (int wrong : new int[] {-1, 2001, MIN, MAX}) {
            Check.refused("plan(1, " + wrong + ")", Check.ARGUMENT, x, () -> x.plan(1, wrong));
        }
        x.plan(1, 2000);
        x.plan(2, 0);
        x.run(1);
        Check.due("the greatest demand", 2000, () -> x.car(3));
        x.run(1);
        Check.due("the least demand", 0, () -> x.car(3));
    }

    private static void planOrder() {
        Check.sentence("Entries are ordered by their times, those of the same time in the order in which they were "
                + "added.");
        AntilockBrakes x = new AntilockBrakes();
        x.plan(3, 31);
        x.plan(2, 21);
        x.run(1);
        x.plan(2, 32);
        x.plan(1, 22);
        x.run(1);
        Check.due("added later for the same time", 22, () -> x.car(3));
        Check.due("planned()", 2, x::planned);
        x.run(1);
        Check.due("added later for the same time", 32, () -> x.car(3));
        Check.due("planned()", 0, x::planned);
    }

    private static void planFull() {
        Check.sentence("Throws IllegalStateException if there are 10 entries");
        AntilockBrakes x = new AntilockBrakes();
        for (int i = 1; i <= 10; i++) {
            int entry = i;
            Check.due("entry " + i, i, () -> x.plan(entry, 1));
        }
        Check.refused("the eleventh", Check.STATE, x, () -> x.plan(5000, 1));
        Check.refused("the eleventh of a time that is planned", Check.STATE, x, () -> x.plan(1, 1));
        Check.refused("a wrong eleventh: its delay", Check.ARGUMENT, x, () -> x.plan(0, 1));
        Check.refused("a wrong eleventh: its demand", Check.ARGUMENT, x, () -> x.plan(1, 2001));
        x.run(1);
        Check.due("there is room again", 10, () -> x.plan(1, 1));
    }

    private static void fault() {
        Check.sentence("wheel: 0 to 3 .. Throws IndexOutOfBoundsException if there is no such wheel");
        AntilockBrakes x = new AntilockBrakes();
        for (int wrong : new int[] {-1, 4, MIN, MAX}) {
            Check.refused("setFault(" + wrong + ", true)", Check.INDEX, x,
                    () -> Check.number(x.setFault(wrong, true)));
        }
        for (int i = 0; i < 4; i++) {
            int wheel = i;
            Check.due("it was whole", 0, () -> Check.number(x.setFault(wheel, true)));
            Check.due("it was faulty", 1, () -> Check.number(x.setFault(wheel, true)));
            Check.due("it was faulty", 1, () -> Check.number(x.setFault(wheel, false)));
            Check.due("it was whole", 0, () -> Check.number(x.setFault(wheel, false)));
        }
    }

    private static void switching() {
        Check.sentence("Returns true if it was on before.");
        AntilockBrakes x = new AntilockBrakes();
        Check.due("on at first", 1, () -> Check.number(x.setOn(true)));
        Check.due("on", 1, () -> Check.number(x.setOn(false)));
        Check.due("off", 0, () -> Check.number(x.setOn(false)));
        Check.due("off", 0, () -> Check.number(x.setOn(true)));
        Check.due("on", 1, () -> x.car(9));
    }

    private static void repair() {
        Check.sentence("Takes all excluded wheels back; all suspicions become 0. .. Returns how many wheels were "
                + "excluded.");
        for (int count = 0; count <= 4; count++) {
            AntilockBrakes x = new AntilockBrakes();
            x.setSpeed(60000);
            for (int i = 0; i < count; i++) {
                x.setFault(i, true);
            }
            x.run(25);
            Check.due("repair()", count, x::repair);
            for (int i = 0; i < 4; i++) {
                int wheel = i;
                Check.due("excluded", 0, () -> x.wheel(wheel, 7));
                Check.due("suspicion", 0, () -> x.wheel(wheel, 8));
            }
            Check.due("repair() again", 0, x::repair);
        }
        AntilockBrakes suspected = new AntilockBrakes();
        suspected.setSpeed(60000);
        suspected.setFault(2, true);
        suspected.run(24);
        Check.due("none is excluded yet", 0, suspected::repair);
        Check.due("its suspicion", 0, () -> suspected.wheel(2, 8));
        suspected.run(1);
        Check.due("its suspicion begins anew", 1, () -> suspected.wheel(2, 8));
    }
}
