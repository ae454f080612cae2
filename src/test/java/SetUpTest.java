/** Promises 1 to 8: a new object, and the calls that set it up. */
public final class SetUpTest {
    private SetUpTest() {
    }

    public static void main(String[] args) {
        newObject();
        setSpeedKeepsToItsRange();
        setSpeedStartsTheCarAnew();
        setSpeedKeepsTheRest();
        addSegmentKeepsToItsRange();
        addSegmentOrdersAndReplaces();
        addSegmentRefusesTheThirteenth();
        addSegmentAtThePosition();
        setDemand();
        planKeepsToItsRange();
        planOrdersByTimeThenByArrival();
        planRefusesTheEleventh();
        setFault();
        setOn();
        repair();
        Check.end();
    }

    private static void newObject() {
        AntilockBrakes x = new AntilockBrakes();
        long[] car = {0, 0, 0, 0, 0, 0, 0, 150, 0, 1};
        for (int what = 0; what < car.length; what++) {
            int asked = what;
            Check.due("new: car(" + what + ")", car[what], () -> x.car(asked));
        }
        for (int i = 0; i < 4; i++) {
            int wheel = i;
            for (int what = 0; what <= 11; what++) {
                int asked = what;
                Check.due("new: wheel(" + i + ", " + what + ")", 0, () -> x.wheel(wheel, asked));
            }
            Check.due("new: friction", 0, () -> x.friction(wheel));
        }
        Check.due("new: segments", 1, x::segments);
        for (int what = 0; what <= 2; what++) {
            int asked = what;
            Check.due("new: segment", 0, () -> x.segment(0, asked));
        }
        Check.due("new: planned", 0, x::planned);
        Check.due("new: events", 0, x::events);
        Check.due("new: undo", Check.STATE, x::undo);
        Check.due("new: no sensor is faulty", 0, () -> Check.number(x.setFault(3, false)));
    }

    private static void setSpeedKeepsToItsRange() {
        AntilockBrakes x = new AntilockBrakes();
        long before = x.digest();
        Check.due("setSpeed(-1)", Check.ARGUMENT, () -> x.setSpeed(-1));
        Check.due("setSpeed(60001)", Check.ARGUMENT, () -> x.setSpeed(60001));
        Check.due("setSpeed(MIN)", Check.ARGUMENT, () -> x.setSpeed(Integer.MIN_VALUE));
        Check.due("digest after wrong speeds", before, x::digest);
        Check.due("setSpeed(60000)", 0, () -> x.setSpeed(60000));
        Check.due("setSpeed(0)", 60000, () -> x.setSpeed(0));
        Check.due("setSpeed(1)", 0, () -> x.setSpeed(1));
    }

    private static void setSpeedStartsTheCarAnew() {
        AntilockBrakes x = braking();
        x.setSpeed(7000);
        Check.due("setSpeed: V", 7000, () -> x.car(0));
        Check.due("setSpeed: R", 7000, () -> x.car(4));
        Check.due("setSpeed: accumulator", 0, () -> x.car(5));
        Check.due("setSpeed: yaw allowance", 150, () -> x.car(7));
        for (int i = 0; i < 4; i++) {
            int wheel = i;
            Check.due("setSpeed: W", 7000, () -> x.wheel(wheel, 0));
            for (int what : new int[] {1, 2, 3, 8, 9, 10, 11}) {
                Check.due("setSpeed: wheel(" + i + ", " + what + ")", 0, () -> x.wheel(wheel, what));
            }
        }
        x.setDemand(0);
        x.run(1);
        Check.due("setSpeed: the first value after it has no older one", 0, () -> x.wheel(3, 11));
    }

    private static void setSpeedKeepsTheRest() {
        AntilockBrakes x = braking();
        long[] car = new long[10];
        for (int what = 0; what < 10; what++) {
            car[what] = x.car(what);
        }
        long cycles = x.wheel(1, 4);
        long valves = x.wheel(1, 5);
        long events = x.events();
        x.setSpeed(9000);
        for (int what : new int[] {1, 2, 3, 6, 9}) {
            Check.due("setSpeed keeps car(" + what + ")", car[what], () -> x.car(what));
        }
        Check.same("the pump has run", 1, Check.number(car[6] > 0));
        Check.same("a wheel has been dumped", 1, Check.number(cycles > 0));
        Check.due("setSpeed keeps the cycles", cycles, () -> x.wheel(1, 4));
        Check.due("setSpeed keeps the valve count", valves, () -> x.wheel(1, 5));
        Check.due("setSpeed keeps the excluded wheel", 1, () -> x.wheel(2, 7));
        Check.due("setSpeed keeps the events", events, x::events);
        Check.due("setSpeed keeps the fault", 1, () -> Check.number(x.setFault(2, true)));
        Check.due("setSpeed keeps the road", 2, () -> x.segment(0, 1));
        Check.due("setSpeed keeps the plan", 1, x::planned);
    }

    /** A car in the midst of an anti-lock stop on ice, with the rear left wheel excluded. */
    private static AntilockBrakes braking() {
        AntilockBrakes x = new AntilockBrakes();
        x.addSegment(0, 2, 2);
        x.setSpeed(20000);
        x.setFault(2, true);
        x.run(25);
        x.setDemand(1500);
        x.plan(4000, 3);
        x.run(40);
        return x;
    }

    private static void addSegmentKeepsToItsRange() {
        AntilockBrakes x = new AntilockBrakes();
        x.setSpeed(10000);
        x.run(2);
        long before = x.digest();
        Check.due("addSegment before X", Check.ARGUMENT, () -> x.addSegment(199, 0, 0));
        Check.due("addSegment(-1)", Check.ARGUMENT, () -> x.addSegment(-1, 0, 0));
        Check.due("addSegment(100000001)", Check.ARGUMENT, () -> x.addSegment(100000001, 0, 0));
        Check.due("addSegment left -1", Check.ARGUMENT, () -> x.addSegment(500, -1, 0));
        Check.due("addSegment left 3", Check.ARGUMENT, () -> x.addSegment(500, 3, 0));
        Check.due("addSegment right -1", Check.ARGUMENT, () -> x.addSegment(500, 0, -1));
        Check.due("addSegment right 3", Check.ARGUMENT, () -> x.addSegment(500, 0, 3));
        Check.due("digest after wrong segments", before, x::digest);
        Check.due("addSegment(X)", 2, () -> x.addSegment(200, 1, 1));
        Check.due("addSegment(100000000)", 3, () -> x.addSegment(100000000, 2, 2));
    }

    private static void addSegmentOrdersAndReplaces() {
        AntilockBrakes x = new AntilockBrakes();
        Check.due("addSegment(300)", 2, () -> x.addSegment(300, 1, 2));
        Check.due("addSegment(100)", 3, () -> x.addSegment(100, 2, 1));
        Check.due("addSegment(200)", 4, () -> x.addSegment(200, 0, 1));
        Check.due("addSegment(100) again", 4, () -> x.addSegment(100, 1, 0));
        Check.due("addSegment(0)", 4, () -> x.addSegment(0, 2, 2));
        long[][] rows = {{0, 2, 2}, {100, 1, 0}, {200, 0, 1}, {300, 1, 2}};
        for (int i = 0; i < 4; i++) {
            for (int what = 0; what < 3; what++) {
                int index = i;
                int asked = what;
                Check.due("segment(" + i + ", " + what + ")", rows[i][what], () -> x.segment(index, asked));
            }
        }
    }

    private static void addSegmentRefusesTheThirteenth() {
        AntilockBrakes x = new AntilockBrakes();
        for (int i = 1; i <= 11; i++) {
            x.addSegment(i * 10, 1, 1);
        }
        long before = x.digest();
        Check.due("twelve segments", 12, x::segments);
        Check.due("the thirteenth segment", Check.STATE, () -> x.addSegment(55, 0, 0));
        Check.due("a wrong thirteenth segment", Check.ARGUMENT, () -> x.addSegment(55, 0, 3));
        Check.due("digest after the thirteenth", before, x::digest);
        Check.due("a replaced segment of twelve", 12, () -> x.addSegment(110, 2, 2));
        Check.due("the replaced segment", 2, () -> x.segment(11, 1));
    }

    private static void addSegmentAtThePosition() {
        AntilockBrakes x = locked(0);
        int here = x.car(1);
        Check.due("dry slide", 750, () -> x.friction(0));
        Check.due("addSegment(X)", 2, () -> x.addSegment(here, 2, 1));
        Check.due("the new segment is the present one: left", 90, () -> x.friction(2));
        Check.due("the new segment is the present one: right", 420, () -> x.friction(3));
        Check.due("the old one is still there", 0, () -> x.segment(0, 0));
        x.run(1);
        Check.due("a tick removes the old one", 1, x::segments);
        Check.due("a tick keeps the present one", here, () -> x.segment(0, 0));
    }

    /** A car whose wheels are all locked, with the controller off. */
    static AntilockBrakes locked(int surface) {
        AntilockBrakes x = new AntilockBrakes();
        x.addSegment(0, surface, surface);
        x.setSpeed(30000);
        x.setOn(false);
        x.setDemand(2000);
        for (int i = 0; i < 200 && x.wheel(0, 0) > 0; i++) {
            x.run(1);
        }
        Check.due("the wheels are locked", 1000, () -> x.wheel(0, 9));
        return x;
    }

    private static void setDemand() {
        AntilockBrakes x = new AntilockBrakes();
        long before = x.digest();
        Check.due("setDemand(-1)", Check.ARGUMENT, () -> x.setDemand(-1));
        Check.due("setDemand(2001)", Check.ARGUMENT, () -> x.setDemand(2001));
        Check.due("digest after wrong demands", before, x::digest);
        Check.due("setDemand(2000)", 0, () -> x.setDemand(2000));
        Check.due("the demand at once", 2000, () -> x.car(3));
        Check.due("setDemand(0)", 2000, () -> x.setDemand(0));
        Check.due("the demand at once", 0, () -> x.car(3));
    }

    private static void planKeepsToItsRange() {
        AntilockBrakes x = new AntilockBrakes();
        long before = x.digest();
        Check.due("plan(0, 1)", Check.ARGUMENT, () -> x.plan(0, 1));
        Check.due("plan(5001, 1)", Check.ARGUMENT, () -> x.plan(5001, 1));
        Check.due("plan(1, -1)", Check.ARGUMENT, () -> x.plan(1, -1));
        Check.due("plan(1, 2001)", Check.ARGUMENT, () -> x.plan(1, 2001));
        Check.due("digest after wrong plans", before, x::digest);
        Check.due("plan(5000, 2000)", 1, () -> x.plan(5000, 2000));
        Check.due("plan(1, 0)", 2, () -> x.plan(1, 0));
    }

    private static void planOrdersByTimeThenByArrival() {
        AntilockBrakes x = new AntilockBrakes();
        x.run(7);
        x.plan(3, 30);
        x.plan(2, 21);
        x.plan(2, 20);
        x.plan(2, 22);
        x.plan(1, 10);
        long[] demands = {10, 22, 30, 30};
        long[] left = {4, 1, 0, 0};
        for (int i = 0; i < 4; i++) {
            x.run(1);
            Check.due("demand after tick " + (i + 1), demands[i], () -> x.car(3));
            Check.due("planned after tick " + (i + 1), left[i], x::planned);
        }
    }

    private static void planRefusesTheEleventh() {
        AntilockBrakes x = new AntilockBrakes();
        for (int i = 1; i <= 10; i++) {
            x.plan(i, i);
        }
        long before = x.digest();
        Check.due("the eleventh entry", Check.STATE, () -> x.plan(1, 1));
        Check.due("a wrong eleventh entry", Check.ARGUMENT, () -> x.plan(1, 2001));
        Check.due("digest after the eleventh", before, x::digest);
        x.run(1);
        Check.due("a tenth entry again", 10, () -> x.plan(1, 1));
    }

    private static void setFault() {
        AntilockBrakes x = new AntilockBrakes();
        long before = x.digest();
        Check.due("setFault(-1)", Check.INDEX, () -> Check.number(x.setFault(-1, true)));
        Check.due("setFault(4)", Check.INDEX, () -> Check.number(x.setFault(4, true)));
        Check.due("digest after wrong wheels", before, x::digest);
        Check.due("setFault(3, true)", 0, () -> Check.number(x.setFault(3, true)));
        Check.due("setFault(3, true) again", 1, () -> Check.number(x.setFault(3, true)));
        Check.due("setFault(2, false)", 0, () -> Check.number(x.setFault(2, false)));
        x.setSpeed(1000);
        x.run(1);
        Check.due("a faulty sensor measures 0", 1000, () -> x.wheel(3, 10));
        Check.due("the wheel turns all the same", 1000, () -> x.wheel(3, 0));
        Check.due("setFault(3, false)", 1, () -> Check.number(x.setFault(3, false)));
        Check.due("the last tick's measured value stays", 1000, () -> x.wheel(3, 10));
    }

    private static void setOn() {
        AntilockBrakes x = new AntilockBrakes();
        x.setSpeed(5000);
        x.setDemand(10);
        Check.due("active", 1, () -> x.car(8));
        Check.due("setOn(false)", 1, () -> Check.number(x.setOn(false)));
        Check.due("off", 0, () -> x.car(9));
        Check.due("not active", 0, () -> x.car(8));
        Check.due("setOn(false) again", 0, () -> Check.number(x.setOn(false)));
        Check.due("setOn(true)", 0, () -> Check.number(x.setOn(true)));
        Check.due("on", 1, () -> x.car(9));
        Check.due("active", 1, () -> x.car(8));
    }

    private static void repair() {
        AntilockBrakes x = new AntilockBrakes();
        Check.due("nothing to repair", 0, x::repair);
        x.setSpeed(20000);
        x.setFault(0, true);
        x.run(5);
        x.setFault(3, true);
        x.run(20);
        Check.due("excluded", 1, () -> x.wheel(0, 7));
        Check.due("not yet excluded", 20, () -> x.wheel(3, 8));
        Check.due("repair", 1, x::repair);
        Check.due("taken back", 0, () -> x.wheel(0, 7));
        Check.due("its suspicion", 0, () -> x.wheel(0, 8));
        Check.due("the other one's suspicion", 0, () -> x.wheel(3, 8));
        x.run(25);
        Check.due("excluded again", 2, x::repair);
    }
}
