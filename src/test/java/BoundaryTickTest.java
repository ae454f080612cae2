/**
 * The boundary cases under "THE CAR AND THE ROAD" and "A TICK", a method for each sentence that names one.
 * The numbers are worked out by hand from the document.
 */
public final class BoundaryTickTest {
    private static final int V = 0, X = 1, TIME = 2, DEMAND = 3;
    private static final int W = 0, P = 1, LOCKED = 6, SLIP = 9;

    private BoundaryTickTest() {
    }

    public static void main(String[] args) {
        floorOfANegativeNumber();
        speedsAtTheEnds();
        demandAtTheEnds();
        atFirstOneSegment();
        twelveSegments();
        presentSegment();
        slipAtStandstill();
        slipAtTheEnds();
        frictionAtThePeak();
        timeIncreases();
        planAtItsTime();
        planOfOneTime();
        frictionBeforeTheMove();
        positionByWholeMillimetres();
        speedNotBelowZero();
        speedByTheFloorOfTheSum();
        wheelNotBelowZero();
        wheelNotAboveTheCar();
        segmentsBehindAreRemoved();
        lockedTicks();
        Check.end();
    }

    /** A car that brakes with the controller off, after a number of ticks. */
    private static AntilockBrakes unaided(int left, int right, int speed, int demand, int ticks) {
        AntilockBrakes x = new AntilockBrakes();
        x.setOn(false);
        x.addSegment(0, left, right);
        x.setSpeed(speed);
        x.setDemand(demand);
        if (ticks > 0) {
            x.run(ticks);
        }
        return x;
    }

    private static void wheels(AntilockBrakes x, int what, long want) {
        for (int i = 0; i < 4; i++) {
            int wheel = i;
            Check.due("wheel(" + i + ", " + what + ")", want, () -> x.wheel(wheel, what));
        }
    }

    private static void floorOfANegativeNumber() {
        Check.sentence("\"floor(a / b)\" rounds towards minus infinity.");
        AntilockBrakes x = new AntilockBrakes();
        x.setSpeed(1);
        x.run(3);
        x.setFault(0, true);
        x.run(1);
        Check.due("floor(-1 / 3)", -1, () -> x.wheel(0, 11));
        x.setFault(0, false);
        x.run(4);
        Check.due("floor(1 / 4)", 0, () -> x.wheel(0, 11));
        x.setFault(0, true);
        x.run(1);
        Check.due("floor(-1 / 4)", -1, () -> x.wheel(0, 11));
    }

    private static void speedsAtTheEnds() {
        Check.sentence("There are a vehicle speed V (0 to 60000, 0 at first) and a position X (0 at first).");
        AntilockBrakes x = new AntilockBrakes();
        Check.due("V at first", 0, () -> x.car(V));
        Check.due("X at first", 0, () -> x.car(X));
        wheels(x, W, 0);
        wheels(x, P, 0);
        Check.due("run(1) at the least speed", 0, () -> x.run(1));
        Check.due("X does not move", 0, () -> x.car(X));
        x.setSpeed(60000);
        Check.due("run(1000) at the greatest speed", 60000, () -> x.run(1000));
        Check.due("X at the greatest speed", 600000, () -> x.car(X));
        wheels(x, W, 60000);
    }

    private static void demandAtTheEnds() {
        Check.sentence("The demand of the driver is a pressure from 0 to 2000 (0 at first).");
        AntilockBrakes x = new AntilockBrakes();
        Check.due("the demand at first", 0, () -> x.car(DEMAND));
        x.run(3);
        wheels(x, P, 0);
        x.setDemand(2000);
        x.run(49);
        wheels(x, P, 1960);
        x.run(1);
        wheels(x, P, 2000);
        x.run(10);
        wheels(x, P, 2000);
        x.setDemand(0);
        x.run(24);
        wheels(x, P, 80);
        x.run(1);
        wheels(x, P, 0);
        x.run(10);
        wheels(x, P, 0);
    }

    private static void atFirstOneSegment() {
        Check.sentence("at first there is one, with the start 0 and DRY on both sides");
        AntilockBrakes x = new AntilockBrakes();
        Check.due("segments()", 1, x::segments);
        Check.due("start", 0, () -> x.segment(0, 0));
        Check.due("left", AntilockBrakes.DRY, () -> x.segment(0, 1));
        Check.due("right", AntilockBrakes.DRY, () -> x.segment(0, 2));
    }

    private static void twelveSegments() {
        Check.sentence("The road is a list of at most 12 segments, each with a start (0 or more), .. ordered by their "
                + "starts");
        AntilockBrakes x = new AntilockBrakes();
        Check.refused("a start of -1", Check.ARGUMENT, x, () -> x.addSegment(-1, 0, 0));
        for (int i = 11; i >= 1; i--) {
            int start = 100 * i;
            Check.due("addSegment(" + start + ")", 13 - i, () -> x.addSegment(start, 1, 2));
        }
        Check.refused("the thirteenth", Check.STATE, x, () -> x.addSegment(50, 0, 0));
        for (int i = 0; i < 12; i++) {
            int index = i;
            Check.due("the start of segment " + i, 100 * i, () -> x.segment(index, 0));
        }
    }

    private static void presentSegment() {
        Check.sentence("The present segment is the last one whose start is at most X.");
        AntilockBrakes x = SetUpTest.locked(AntilockBrakes.DRY);
        int here = x.car(X);
        x.addSegment(here + 1, 2, 2);
        Check.due("a start of X + 1 is not yet present", 750, () -> x.friction(0));
        x.addSegment(here, 1, 1);
        Check.due("a start of X is present", 420, () -> x.friction(0));
        x.addSegment(here, 2, 2);
        Check.due("the one that replaces it is present", 90, () -> x.friction(3));
        Check.due("the one behind is still there", 3, x::segments);
    }

    private static void slipAtStandstill() {
        Check.sentence("The slip of a wheel is 0 if V is 0, otherwise floor(1000 * (V - W) / V).");
        AntilockBrakes x = new AntilockBrakes();
        wheels(x, SLIP, 0);
        AntilockBrakes stopped = unaided(0, 0, 50, 2000, 3);
        Check.due("V", 0, () -> stopped.car(V));
        wheels(stopped, SLIP, 0);
        Check.due("friction at standstill", 0, () -> stopped.friction(2));
        x.setSpeed(1);
        wheels(x, SLIP, 0);
    }

    private static void slipAtTheEnds() {
        Check.sentence("otherwise floor(1000 * (V - W) / V)");
        AntilockBrakes whole = unaided(0, 0, 80, 2000, 2);
        wheels(whole, W, 0);
        wheels(whole, SLIP, 1000);
        AntilockBrakes part = unaided(0, 0, 81, 2000, 2);
        wheels(part, W, 1);
        wheels(part, SLIP, 987);
        AntilockBrakes least = unaided(0, 0, 60000, 29, 2);
        wheels(least, W, 60000 - 2 * 29);
        wheels(least, SLIP, 0);
        AntilockBrakes one = unaided(0, 0, 60000, 30, 2);
        wheels(one, W, 60000 - 2 * 30);
        wheels(one, SLIP, 1);
    }

    private static void frictionAtThePeak() {
        Check.sentence("The friction of a wheel with the slip s on a surface is floor(F * s / 150) if s is at most "
                + "150, otherwise F - floor(F * (1000 - Q) * (s - 150) / 850000).");
        AntilockBrakes x = new AntilockBrakes();
        int[] slips = {0, 1, 149, 150, 151, 153, 154, 999, 1000};
        long[][] want = {{0, 6, 993, 1000, 1000, 1000, 999, 751, 750}, {0, 4, 596, 600, 600, 600, 600, 421, 420},
            {0, 1, 149, 150, 150, 150, 150, 91, 90}};
        for (int i = 0; i < 3; i++) {
            for (int k = 0; k < slips.length; k++) {
                int surface = i;
                int slip = slips[k];
                Check.due("frictionFor(" + i + ", " + slip + ")", want[i][k], () -> x.frictionFor(surface, slip));
            }
        }
    }

    private static void timeIncreases() {
        Check.sentence("The time increases by 1.");
        AntilockBrakes x = new AntilockBrakes();
        Check.due("the time at first", 0, () -> x.car(TIME));
        x.run(1);
        Check.due("after a tick at standstill", 1, () -> x.car(TIME));
        x.stop();
        Check.due("after no tick", 1, () -> x.car(TIME));
        x.run(1000);
        Check.due("after the longest run", 1001, () -> x.car(TIME));
    }

    private static void planAtItsTime() {
        Check.sentence("The entries of the plan whose time has come (see plan()) set the demand, in their order, and "
                + "are removed.");
        AntilockBrakes x = new AntilockBrakes();
        x.run(3);
        x.plan(2, 700);
        x.run(1);
        Check.due("a tick too early: the demand", 0, () -> x.car(DEMAND));
        Check.due("a tick too early: planned()", 1, x::planned);
        x.run(1);
        Check.due("in time: the demand", 700, () -> x.car(DEMAND));
        Check.due("in time: planned()", 0, x::planned);
        wheels(x, P, 40);
        x.setDemand(5);
        x.run(1);
        Check.due("an entry that is removed does not come again", 5, () -> x.car(DEMAND));
    }

    private static void planOfOneTime() {
        Check.sentence("set the demand, in their order");
        AntilockBrakes x = new AntilockBrakes();
        x.plan(2, 30);
        x.plan(1, 10);
        x.plan(1, 50);
        x.plan(1, 20);
        x.run(1);
        Check.due("the last one of the same time stands", 20, () -> x.car(DEMAND));
        Check.due("all of the same time are removed", 1, x::planned);
        x.run(1);
        Check.due("the next one", 30, () -> x.car(DEMAND));
        Check.due("the plan is empty", 0, x::planned);
    }

    private static void frictionBeforeTheMove() {
        Check.sentence("The friction of each wheel is computed from V and its W, on the surface of its side of the "
                + "present segment.");
        AntilockBrakes x = SetUpTest.locked(AntilockBrakes.DRY);
        int speed = x.car(V);
        x.addSegment(x.car(X) + 1, 2, 1);
        Check.due("a tick that begins before the new segment", speed - 75, () -> x.run(1));
        Check.due("it is present now", 1, x::segments);
        wheels(x, W, 0);
        Check.due("left", 90, () -> x.friction(0));
        Check.due("right", 420, () -> x.friction(1));
        Check.due("left", 90, () -> x.friction(2));
        Check.due("right", 420, () -> x.friction(3));
        Check.due("a tick that begins on it", speed - 75 - 25, () -> x.run(1));
    }

    private static void positionByWholeMillimetres() {
        Check.sentence("X increases by floor(V / 100).");
        long[][] speeds = {{0, 0}, {99, 0}, {100, 1}, {199, 1}, {200, 2}, {59999, 599}, {60000, 600}};
        for (long[] row : speeds) {
            AntilockBrakes x = new AntilockBrakes();
            x.setSpeed((int) row[0]);
            x.run(1);
            Check.due("X after a tick at " + row[0], row[1], () -> x.car(X));
        }
        AntilockBrakes slows = unaided(0, 0, 100, 2000, 2);
        Check.due("V falls in the third tick", 20, () -> slows.run(1));
        Check.due("X increases before V decreases", 3, () -> slows.car(X));
    }

    private static void speedNotBelowZero() {
        Check.sentence("Then V decreases by floor((sum of the four frictions) / 40), but not below 0.");
        long[][] rows = {{1, 0}, {50, 0}, {74, 0}, {75, 0}, {76, 1}, {80, 5}};
        for (long[] row : rows) {
            AntilockBrakes x = unaided(0, 0, (int) row[0], 2000, 2);
            wheels(x, W, 0);
            Check.due("V after sliding from " + row[0], row[1], () -> x.run(1));
        }
    }

    private static void speedByTheFloorOfTheSum() {
        Check.sentence("V decreases by floor((sum of the four frictions) / 40)");
        int[][] rows = {{0, 0, 75}, {1, 1, 42}, {2, 2, 9}, {1, 2, 25}, {2, 1, 25}, {0, 2, 42}, {0, 1, 58}};
        for (int[] row : rows) {
            AntilockBrakes x = unaided(row[0], row[1], 80, 2000, 2);
            Check.due("V after sliding on " + row[0] + " and " + row[1], 80 - row[2], () -> x.run(1));
        }
    }

    private static void wheelNotBelowZero() {
        Check.sentence("Each W increases by 2 * (friction - P), but it becomes 0 if it would be less than 0");
        long[][] rows = {{79, 0}, {80, 0}, {81, 1}};
        for (long[] row : rows) {
            AntilockBrakes x = unaided(0, 0, (int) row[0], 2000, 2);
            wheels(x, W, row[1]);
        }
    }

    private static void wheelNotAboveTheCar() {
        Check.sentence("and V if it would be greater than V");
        AntilockBrakes x = unaided(0, 0, 76, 2000, 3);
        Check.due("V", 1, () -> x.car(V));
        wheels(x, W, 1);
        AntilockBrakes still = unaided(0, 0, 75, 2000, 3);
        Check.due("V", 0, () -> still.car(V));
        wheels(still, W, 0);
        AntilockBrakes freed = SetUpTest.locked(AntilockBrakes.WET);
        freed.setDemand(0);
        boolean within = true;
        for (int i = 0; i < 80; i++) {
            int speed = freed.run(1);
            within &= freed.wheel(0, W) <= speed && freed.wheel(3, W) <= speed;
        }
        Check.yes("W is never above V", within);
        Check.yes("the wheels turn again", freed.car(V) > 0 && freed.wheel(3, W) > 20000);
    }

    private static void segmentsBehindAreRemoved() {
        Check.sentence("All segments but the present one that start before it are removed from the road. (The present "
                + "one is found with the new X.)");
        AntilockBrakes x = new AntilockBrakes();
        x.addSegment(100, 0, 1);
        x.addSegment(199, 1, 0);
        x.addSegment(200, 1, 1);
        x.addSegment(201, 1, 2);
        x.setSpeed(9999);
        x.run(1);
        Check.due("X", 99, () -> x.car(X));
        Check.due("none is removed at X 99", 5, x::segments);
        x.setSpeed(100);
        x.run(1);
        Check.due("one is removed at X 100", 4, x::segments);
        Check.due("the present one stays", 100, () -> x.segment(0, 0));
        x.setSpeed(10000);
        x.run(1);
        Check.due("two are removed at X 200", 2, x::segments);
        Check.due("the present one", 200, () -> x.segment(0, 0));
        Check.due("the one ahead", 201, () -> x.segment(1, 0));
        x.run(1);
        Check.due("the last one", 1, x::segments);
        x.run(1000);
        Check.due("the last one is never removed", 201, () -> x.segment(0, 0));
        Check.due("its right side", 2, () -> x.segment(0, 2));
    }

    private static void lockedTicks() {
        Check.sentence("if W is 0 and V is greater than 1400, its locked ticks increase by 1");
        AntilockBrakes at = unaided(2, 2, 1700, 200, 31);
        wheels(at, LOCKED, 17);
        Check.due("V", 1400, () -> at.run(1));
        wheels(at, W, 0);
        wheels(at, LOCKED, 17);
        AntilockBrakes above = unaided(2, 2, 2400, 300, 110);
        wheels(above, LOCKED, 98);
        Check.due("V", 1401, () -> above.run(1));
        wheels(above, W, 0);
        wheels(above, LOCKED, 99);
        AntilockBrakes turns = unaided(0, 1, 5930, 1800, 34);
        Check.due("W", 1, () -> turns.wheel(0, W));
        Check.yes("V is great", turns.car(V) > 1400);
        Check.due("a wheel that turns slowly is not locked", 0, () -> turns.wheel(0, LOCKED));
    }
}
