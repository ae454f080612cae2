import java.math.BigInteger;
import java.util.ArrayList;
import java.util.List;

/**
 * The boundary cases of promises 9 to 22 and of "EVENTS", "UNDO" and "EXCEPTIONS": arguments at the ends of their
 * ranges and beyond, what is empty and what is full, what is kept and what is dropped, and refused calls. A method for
 * each sentence that names one.
 */
public final class BoundaryValuesTest {
    private static final int MIN = Integer.MIN_VALUE, MAX = Integer.MAX_VALUE;

    private BoundaryValuesTest() {
    }

    public static void main(String[] args) {
        run();
        stopAtStandstill();
        stopAtMost();
        stopDistanceSpeed();
        stopDistanceSurfaces();
        stopDistanceDemand();
        stopDistanceAtMost();
        stopDistanceOfANewCar();
        car();
        activeNow();
        wheel();
        wheelWhat();
        noValueKept();
        lastMeasuredValue();
        friction();
        frictionFor();
        segments();
        segment();
        planned();
        event();
        events();
        fortyEvents();
        undoEmpty();
        undoOfNothing();
        undoSavesTheStateBefore();
        undoKeepsThree();
        undoOfAFullObject();
        undoOfTheRoad();
        undoOfThePlan();
        undoOfMeasuredValues();
        undoOfAFullAccumulator();
        refusedCallsAreNotSaved();
        questionsAreNotSaved();
        firstListedException();
        digest();
        digestOfStates();
        lastOfTheCalls();
        Check.end();
    }

    private static AntilockBrakes rolling(int speed) {
        AntilockBrakes x = new AntilockBrakes();
        x.setSpeed(speed);
        return x;
    }

    private static void run() {
        Check.sentence("ticks: 1 to 1000 .. Throws IllegalArgumentException if ticks is out of range");
        AntilockBrakes x = rolling(100);
        for (int wrong : new int[] {0, -1, 1001, MIN, MAX}) {
            Check.refused("run(" + wrong + ")", Check.ARGUMENT, x, () -> x.run(wrong));
        }
        Check.due("run(1)", 100, () -> x.run(1));
        Check.due("the time", 1, () -> x.car(2));
        Check.due("run(1000)", 100, () -> x.run(1000));
        Check.due("the time", 1001, () -> x.car(2));
        Check.due("X", 1001, () -> x.car(1));
    }

    private static void stopAtStandstill() {
        Check.sentence("Returns the number of ticks; 0 if V is 0 already.");
        AntilockBrakes x = new AntilockBrakes();
        x.setDemand(100);
        Check.due("stop()", 0, x::stop);
        Check.due("the time", 0, () -> x.car(2));
        Check.due("no tick has passed", 0, () -> x.wheel(0, 1));
        Check.due("it was saved", 1, x::undo);
    }

    // With a speed of 50, V is 0 two ticks after the one that the demand comes in.
    private static void stopAtMost() {
        Check.sentence("Lets ticks pass until V is 0, but at most 5000.");
        int[][] rows = {{1, 3, 0}, {4997, 4999, 0}, {4998, 5000, 0}, {4999, 5000, 50}};
        for (int[] row : rows) {
            AntilockBrakes x = rolling(50);
            x.plan(row[0], 2000);
            Check.due("stop() with a plan for tick " + row[0], row[1], x::stop);
            Check.due("V", row[2], () -> x.car(0));
            Check.due("the time", row[1], () -> x.car(2));
        }
        AntilockBrakes least = rolling(1);
        Check.due("stop() with a V of 1", 5000, least::stop);
        Check.due("V", 1, () -> least.car(0));
        AntilockBrakes never = rolling(60000);
        Check.due("stop() without a demand", 5000, never::stop);
        Check.due("V", 60000, () -> never.car(0));
        Check.due("X", 3000000, () -> never.car(1));
        Check.due("stop() again", 5000, never::stop);
    }

    private static void stopDistanceSpeed() {
        Check.sentence("speed: 0 to 60000 .. Throws IllegalArgumentException if speed, surfaces or demand is out of "
                + "range");
        AntilockBrakes x = rolling(7);
        for (int wrong : new int[] {-1, 60001, MIN, MAX}) {
            Check.refused("a speed of " + wrong, Check.ARGUMENT, x, () -> x.stopDistance(wrong, 0, 2000, true));
        }
        Check.due("the least speed", 0, () -> x.stopDistance(0, 0, 2000, true));
        Check.due("a speed of 100", 3, () -> x.stopDistance(100, 0, 2000, false));
        Check.due("the greatest speed", unaidedWay(60000, 0, 0, 2000), () -> x.stopDistance(60000, 0, 2000, false));
    }

    private static long unaidedWay(int speed, int left, int right, int demand) {
        AntilockBrakes x = rolling(speed);
        x.addSegment(0, left, right);
        x.setOn(false);
        x.setDemand(demand);
        x.stop();
        return x.car(1);
    }

    private static void stopDistanceSurfaces() {
        Check.sentence("surfaces: 10 * (left surface) + (right surface)");
        AntilockBrakes x = new AntilockBrakes();
        for (int wrong : new int[] {-1, -10, -11, 3, 9, 13, 19, 23, 29, 30, 31, 32, 100, 111, 200, 222, MIN, MAX}) {
            Check.refused("surfaces of " + wrong, Check.ARGUMENT, x, () -> x.stopDistance(9000, wrong, 900, true));
        }
        for (int i = 0; i < 9; i++) {
            int left = i / 3;
            int right = i % 3;
            Check.due("surfaces of " + (10 * left + right), unaidedWay(9000, left, right, 900),
                    () -> x.stopDistance(9000, 10 * left + right, 900, false));
        }
        Check.yes("a wet road is longer than a dry one",
                x.stopDistance(9000, 11, 900, false) > x.stopDistance(9000, 0, 900, false));
    }

    private static void stopDistanceDemand() {
        Check.sentence("demand: 0 to 2000 .. a constant demand");
        AntilockBrakes x = new AntilockBrakes();
        for (int wrong : new int[] {-1, 2001, MIN, MAX}) {
            Check.refused("a demand of " + wrong, Check.ARGUMENT, x, () -> x.stopDistance(0, 0, wrong, true));
        }
        Check.due("the least demand", 500000, () -> x.stopDistance(10000, 0, 0, true));
        Check.due("the greatest demand", unaidedWay(10000, 0, 0, 2000), () -> x.stopDistance(10000, 0, 2000, false));
        x.plan(1, 2000);
        x.setFault(0, true);
        x.setOn(false);
        long before = x.digest();
        Check.due("a new car, without this one's plan", 500000, () -> x.stopDistance(10000, 0, 0, true));
        Check.due("it changes nothing", before, x::digest);
    }

    private static void stopDistanceAtMost() {
        Check.sentence("Finds how far a car would go from a speed until it stands still (at most 5000 ticks)");
        AntilockBrakes x = new AntilockBrakes();
        Check.due("without a demand at the greatest speed", 3000000, () -> x.stopDistance(60000, 22, 0, true));
        Check.due("without a demand at 100", 5000, () -> x.stopDistance(100, 0, 0, false));
        Check.due("without a demand at 99", 0, () -> x.stopDistance(99, 0, 0, false));
    }

    // The first way excludes all wheels, as they are locked; the car of the second one must not know it.
    private static void stopDistanceOfANewCar() {
        Check.sentence("a new car, with this speed as by setSpeed(), a road with these surfaces everywhere, and a "
                + "constant demand");
        AntilockBrakes x = new AntilockBrakes();
        for (int surfaces : new int[] {0, 12, 21, 22}) {
            long want = new AntilockBrakes().stopDistance(30000, surfaces, 2000, true);
            Check.due("a first way", 221229, () -> x.stopDistance(20000, 22, 1500, false));
            Check.due("a second way", want, () -> x.stopDistance(30000, surfaces, 2000, true));
        }
    }

    private static void car() {
        Check.sentence("what: 0 V, 1 X, .. 9 1 if it is on or 0 if not .. Throws IllegalArgumentException if what is "
                + "out of range");
        AntilockBrakes x = rolling(60000);
        for (int wrong : new int[] {-1, 10, MIN, MAX}) {
            Check.refused("car(" + wrong + ")", Check.ARGUMENT, x, () -> x.car(wrong));
        }
        Check.due("car(0)", 60000, () -> x.car(0));
        Check.due("car(9)", 1, () -> x.car(9));
        x.setOn(false);
        Check.due("car(9)", 0, () -> x.car(9));
    }

    private static void activeNow() {
        Check.sentence("8 1 if the controller is active now (with the present demand, R and excluded wheels) or 0 if "
                + "not");
        AntilockBrakes x = rolling(20000);
        Check.due("without a demand", 0, () -> x.car(8));
        x.setDemand(1);
        Check.due("with one, before any tick", 1, () -> x.car(8));
        x.setDemand(0);
        x.setFault(0, true);
        x.setFault(3, true);
        x.run(25);
        x.setDemand(1);
        Check.due("with two wheels excluded", 0, () -> x.car(8));
        x.repair();
        Check.due("after repair(), before any tick", 1, () -> x.car(8));
        x.setSpeed(1399);
        Check.due("with an R of 1399", 0, () -> x.car(8));
        x.setSpeed(1400);
        Check.due("with an R of 1400", 1, () -> x.car(8));
        x.setOn(false);
        Check.due("off", 0, () -> x.car(8));
    }

    private static void wheel() {
        Check.sentence("wheel: 0 to 3 .. Throws IndexOutOfBoundsException if there is no such wheel");
        AntilockBrakes x = rolling(60000);
        for (int wrong : new int[] {-1, 4, MIN, MAX}) {
            Check.refused("wheel(" + wrong + ", 0)", Check.INDEX, x, () -> x.wheel(wrong, 0));
        }
        Check.due("wheel(0, 0)", 60000, () -> x.wheel(0, 0));
        Check.due("wheel(3, 0)", 60000, () -> x.wheel(3, 0));
    }

    private static void wheelWhat() {
        Check.sentence("what: 0 W, 1 P, .. 11 acceleration of the last tick .. Throws IllegalArgumentException if what "
                + "is out of range");
        AntilockBrakes x = rolling(60000);
        for (int wrong : new int[] {-1, 12, MIN, MAX}) {
            Check.refused("wheel(3, " + wrong + ")", Check.ARGUMENT, x, () -> x.wheel(3, wrong));
        }
        x.run(1);
        x.setFault(3, true);
        x.run(1);
        Check.due("wheel(3, 0)", 60000, () -> x.wheel(3, 0));
        Check.due("wheel(3, 11)", -60000, () -> x.wheel(3, 11));
    }

    private static void noValueKept() {
        Check.sentence("10 estimated slip with the measured value of the last tick (0 if none is kept), 11 "
                + "acceleration of the last tick (0 if no value is kept)");
        AntilockBrakes x = rolling(20000);
        x.setFault(1, true);
        Check.due("E before the first tick", 0, () -> x.wheel(1, 10));
        Check.due("A before the first tick", 0, () -> x.wheel(1, 11));
        x.setFault(1, false);
        x.run(1);
        x.setFault(1, true);
        x.run(1);
        Check.due("E after it", 1000, () -> x.wheel(1, 10));
        Check.due("A after it", -20000, () -> x.wheel(1, 11));
        x.setSpeed(20000);
        Check.due("E after setSpeed()", 0, () -> x.wheel(1, 10));
        Check.due("A after setSpeed()", 0, () -> x.wheel(1, 11));
    }

    private static void lastMeasuredValue() {
        Check.sentence("estimated slip with the measured value of the last tick");
        AntilockBrakes x = rolling(20000);
        x.run(1);
        x.setFault(2, true);
        Check.due("a fault before its first tick", 0, () -> x.wheel(2, 10));
        x.run(1);
        x.setFault(2, false);
        Check.due("a repaired sensor before its first tick", 1000, () -> x.wheel(2, 10));
        x.run(1);
        Check.due("a repaired sensor", 0, () -> x.wheel(2, 10));
    }

    private static void friction() {
        Check.sentence("wheel: 0 to 3 .. Returns the friction that a wheel would have now.");
        AntilockBrakes x = SetUpTest.locked(AntilockBrakes.WET);
        for (int wrong : new int[] {-1, 4, MIN, MAX}) {
            Check.refused("friction(" + wrong + ")", Check.INDEX, x, () -> x.friction(wrong));
        }
        Check.due("friction(0)", 420, () -> x.friction(0));
        Check.due("friction(3)", 420, () -> x.friction(3));
        x.setSpeed(60000);
        Check.due("friction(0) without a slip", 0, () -> x.friction(0));
    }

    private static void frictionFor() {
        Check.sentence("surface: 0 to 2 .. slip: 0 to 1000 .. Throws IllegalArgumentException if an argument is out of "
                + "range");
        AntilockBrakes x = new AntilockBrakes();
        for (int wrong : new int[] {-1, 3, MIN, MAX}) {
            Check.refused("frictionFor(" + wrong + ", 0)", Check.ARGUMENT, x, () -> x.frictionFor(wrong, 0));
        }
        for (int wrong : new int[] {-1, 1001, MIN, MAX}) {
            Check.refused("frictionFor(2, " + wrong + ")", Check.ARGUMENT, x, () -> x.frictionFor(2, wrong));
        }
        Check.due("frictionFor(0, 0)", 0, () -> x.frictionFor(0, 0));
        Check.due("frictionFor(0, 1000)", 750, () -> x.frictionFor(0, 1000));
        Check.due("frictionFor(2, 0)", 0, () -> x.frictionFor(2, 0));
        Check.due("frictionFor(2, 1000)", 90, () -> x.frictionFor(2, 1000));
    }

    private static void segments() {
        Check.sentence("Returns the number of segments of the road. Returns 1 to 12.");
        AntilockBrakes x = new AntilockBrakes();
        Check.due("the least", 1, x::segments);
        for (int i = 1; i < 12; i++) {
            x.addSegment(i, 0, 0);
        }
        Check.due("the most", 12, x::segments);
        x.setSpeed(1100);
        x.run(1);
        Check.due("the least again", 1, x::segments);
    }

    private static void segment() {
        Check.sentence("index: number of the segment, from 0, by their starts .. what: 0 start, 1 left surface, 2 "
                + "right surface");
        AntilockBrakes x = new AntilockBrakes();
        Check.refused("segment(1, 0) of one", Check.INDEX, x, () -> x.segment(1, 0));
        x.addSegment(5, 1, 2);
        for (int wrong : new int[] {-1, 2, 12, MIN, MAX}) {
            Check.refused("segment(" + wrong + ", 0)", Check.INDEX, x, () -> x.segment(wrong, 0));
        }
        for (int wrong : new int[] {-1, 3, MIN, MAX}) {
            Check.refused("segment(1, " + wrong + ")", Check.ARGUMENT, x, () -> x.segment(1, wrong));
        }
        Check.due("segment(0, 0)", 0, () -> x.segment(0, 0));
        Check.due("segment(1, 0)", 5, () -> x.segment(1, 0));
        Check.due("segment(1, 2)", 2, () -> x.segment(1, 2));
        for (int i = 10; i < 20; i++) {
            x.addSegment(i, 0, 0);
        }
        Check.due("segment(11, 0)", 19, () -> x.segment(11, 0));
        Check.refused("segment(12, 0)", Check.INDEX, x, () -> x.segment(12, 0));
    }

    private static void planned() {
        Check.sentence("Returns the number of entries of the plan. Returns 0 to 10.");
        AntilockBrakes x = new AntilockBrakes();
        Check.due("the least", 0, x::planned);
        for (int i = 0; i < 10; i++) {
            x.plan(5, i);
        }
        Check.due("the most", 10, x::planned);
        x.run(4);
        Check.due("the most still", 10, x::planned);
        x.run(1);
        Check.due("the least again", 0, x::planned);
        Check.due("the last one's demand", 9, () -> x.car(3));
    }

    private static void event() {
        Check.sentence("index: number of the event, from 0; the oldest one first .. what: 0 time, 1 kind, 2 value");
        AntilockBrakes x = rolling(60000);
        for (int wrong : new int[] {-1, 0, 1, MIN, MAX}) {
            Check.refused("event(" + wrong + ", 0) of none", Check.INDEX, x, () -> x.event(wrong, 0));
        }
        x.setFault(2, true);
        x.run(5);
        x.setFault(1, true);
        x.run(25);
        for (int wrong : new int[] {-1, 2, 40, MIN, MAX}) {
            Check.refused("event(" + wrong + ", 0) of two", Check.INDEX, x, () -> x.event(wrong, 0));
        }
        for (int wrong : new int[] {-1, 3, MIN, MAX}) {
            Check.refused("event(1, " + wrong + ")", Check.ARGUMENT, x, () -> x.event(1, wrong));
        }
        long[][] want = {{25, AntilockBrakes.EXCLUDED, 2}, {30, AntilockBrakes.EXCLUDED, 1}};
        for (int i = 0; i < 6; i++) {
            int index = i / 3;
            int what = i % 3;
            Check.due("event(" + index + ", " + what + ")", want[index][what], () -> x.event(index, what));
        }
    }

    /** Excludes one wheel again and again: an event each 25 ticks. */
    private static void excludeAgain(AntilockBrakes x, int times) {
        for (int i = 0; i < times; i++) {
            x.run(25);
            x.repair();
        }
    }

    private static void events() {
        Check.sentence("Returns the number of events that are kept. Returns 0 to 40.");
        AntilockBrakes x = rolling(60000);
        x.run(1000);
        Check.due("the least", 0, x::events);
        x.setFault(3, true);
        excludeAgain(x, 1);
        Check.due("one", 1, x::events);
        excludeAgain(x, 60);
        Check.due("the most", 40, x::events);
    }

    private static void fortyEvents() {
        Check.sentence("The latest 40 events are kept.");
        AntilockBrakes x = rolling(60000);
        x.setFault(0, true);
        excludeAgain(x, 39);
        Check.due("after 39", 39, x::events);
        Check.refused("event(39, 0) of 39", Check.INDEX, x, () -> x.event(39, 0));
        excludeAgain(x, 1);
        Check.due("after 40", 40, x::events);
        Check.due("the oldest of 40", 25, () -> x.event(0, 0));
        Check.due("the latest of 40", 1000, () -> x.event(39, 0));
        Check.refused("event(40, 0) of 40", Check.INDEX, x, () -> x.event(40, 0));
        excludeAgain(x, 1);
        Check.due("after 41", 40, x::events);
        Check.due("the oldest of 41 is dropped", 50, () -> x.event(0, 0));
        Check.due("the latest of 41", 1025, () -> x.event(39, 0));
        Check.refused("event(40, 0) of 41", Check.INDEX, x, () -> x.event(40, 0));
        excludeAgain(x, 45);
        Check.due("after 86", 40, x::events);
        for (int i = 0; i < 40; i++) {
            int index = i;
            Check.due("the time of event " + i + " of 86", 25 * (i + 47), () -> x.event(index, 0));
        }
    }

    private static void undoEmpty() {
        Check.sentence("Returns the number of states that are left on the stack. Throws IllegalStateException if the "
                + "stack is empty");
        AntilockBrakes x = new AntilockBrakes();
        Check.refused("undo() of a new object", Check.STATE, x, x::undo);
        x.setDemand(1);
        Check.due("undo()", 0, x::undo);
        Check.refused("undo() again", Check.STATE, x, x::undo);
        x.setDemand(2);
        x.setDemand(3);
        Check.due("undo()", 1, x::undo);
        Check.due("undo()", 0, x::undo);
        Check.refused("undo() of an emptied stack", Check.STATE, x, x::undo);
        Check.due("the demand", 0, () -> x.car(3));
    }

    private static void undoOfNothing() {
        Check.sentence("Every method that is marked \"undoable\" saves the whole state on an undo stack when it ends "
                + "normally, also if it changes nothing.");
        AntilockBrakes x = new AntilockBrakes();
        Check.Call[] calls = {() -> x.setSpeed(0), () -> x.addSegment(0, 0, 0), () -> x.setDemand(0),
            () -> Check.number(x.setFault(0, false)), () -> Check.number(x.setOn(true)), x::repair, x::stop};
        for (int i = 0; i < calls.length; i++) {
            long before = x.digest();
            calls[i].answer();
            Check.yes("call " + i + " leaves a state", x.digest() != before);
            Check.due("undo() of call " + i, 0, x::undo);
            Check.due("the state after undo() of call " + i, before, x::digest);
        }
    }

    private static void undoSavesTheStateBefore() {
        Check.sentence("The saved state is the one from before the call.");
        AntilockBrakes x = rolling(20000);
        x.addSegment(0, 2, 1);
        x.setDemand(1500);
        x.setFault(2, true);
        x.run(30);
        // Two states are left here, so that their number is the same before a call and after its undo().
        x.repair();
        x.undo();
        Check.Call[] calls = {() -> x.setSpeed(60000), () -> x.addSegment(100000000, 1, 1), () -> x.setDemand(2000),
            () -> x.plan(5000, 2000), () -> Check.number(x.setFault(3, true)), () -> Check.number(x.setOn(false)),
            x::repair, () -> x.run(1000), x::stop};
        for (int i = 0; i < calls.length; i++) {
            long before = x.digest();
            calls[i].answer();
            Check.due("undo() of call " + i, 2, x::undo);
            Check.due("the state after undo() of call " + i, before, x::digest);
        }
    }

    private static void undoKeepsThree() {
        Check.sentence("The stack keeps the latest 3 saved states and drops older ones.");
        for (int saved = 3; saved <= 7; saved++) {
            AntilockBrakes x = new AntilockBrakes();
            for (int demand = 1; demand <= saved; demand++) {
                x.setDemand(demand);
            }
            for (int left = 2; left >= 0; left--) {
                Check.due("undo() after " + saved + " calls", left, x::undo);
                Check.due("the demand", saved - 3 + left, () -> x.car(3));
            }
            Check.refused("the fourth undo()", Check.STATE, x, x::undo);
        }
    }

    // What a state holds at its fullest must come back whole.
    private static void undoOfAFullObject() {
        Check.sentence("Restores the latest saved state and removes it from the undo stack.");
        AntilockBrakes x = rolling(60000);
        x.setFault(0, true);
        excludeAgain(x, 43);
        for (int i = 0; i < 10; i++) {
            x.plan(5000 - i, i);
            x.addSegment(90000000 + i, 1, 2);
        }
        x.addSegment(100000000, 2, 1);
        Check.due("segments()", 12, x::segments);
        Check.due("undo()", 2, x::undo);
        Check.due("undo()", 1, x::undo);
        Check.due("undo()", 0, x::undo);
        long before = x.digest();
        for (int i = 0; i < 3; i++) {
            x.stop();
        }
        Check.due("planned()", 0, x::planned);
        Check.due("undo()", 2, x::undo);
        Check.due("undo()", 1, x::undo);
        Check.due("undo()", 0, x::undo);
        Check.due("the state", before, x::digest);
        Check.due("events()", 40, x::events);
        Check.due("planned()", 9, x::planned);
    }

    private static void undoOfTheRoad() {
        Check.sentence("saves the whole state on an undo stack");
        AntilockBrakes x = new AntilockBrakes();
        x.addSegment(500, 1, 2);
        x.addSegment(900, 2, 0);
        x.setOn(true);
        x.undo();
        Check.Call[] calls = {() -> x.addSegment(0, 2, 1), () -> x.addSegment(500, 2, 1),
            () -> x.addSegment(300, 0, 0), () -> x.addSegment(1000, 0, 0)};
        for (int i = 0; i < calls.length; i++) {
            long before = x.digest();
            calls[i].answer();
            Check.yes("call " + i + " changes the road", x.segments() > 3 || x.segment(0, 1) + x.segment(1, 1) > 1);
            x.undo();
            Check.due("the state after undo() of call " + i, before, x::digest);
        }
        x.setSpeed(60000);
        x.run(1);
        Check.due("a segment behind is removed", 2, x::segments);
        x.undo();
        Check.due("it is back", 3, x::segments);
        Check.due("its start", 0, () -> x.segment(0, 0));
        Check.due("the next one's start", 500, () -> x.segment(1, 0));
        Check.due("the last one's left surface", 2, () -> x.segment(2, 1));
        Check.due("the last one's right surface", 0, () -> x.segment(2, 2));
    }

    private static void undoOfThePlan() {
        Check.sentence("saves the whole state on an undo stack");
        AntilockBrakes x = new AntilockBrakes();
        x.plan(5, 50);
        x.plan(7, 70);
        x.setOn(true);
        x.undo();
        long before = x.digest();
        x.plan(1, 10);
        x.undo();
        Check.due("the state after undo() of plan()", before, x::digest);
        x.run(6);
        Check.due("the demand", 50, () -> x.car(3));
        x.undo();
        Check.due("the state after undo() of run()", before, x::digest);
        x.run(5);
        Check.due("the demand comes in time again", 50, () -> x.car(3));
        x.run(2);
        Check.due("and the next one", 70, () -> x.car(3));
    }

    // No answer shows the older values; the next acceleration does.
    private static void undoOfMeasuredValues() {
        Check.sentence("saves the whole state on an undo stack");
        AntilockBrakes x = rolling(9000);
        x.run(2);
        x.setFault(3, true);
        x.setSpeed(50);
        x.run(9);
        x.undo();
        x.undo();
        x.run(1);
        Check.due("A with three values", -4500, () -> x.wheel(3, 11));
        x.run(9);
        x.undo();
        x.run(1);
        Check.due("A with four values", -3000, () -> x.wheel(3, 11));
    }

    // Wheels 0 to 3 are dumped until the accumulator is full; FULL has been logged, and is not logged again.
    private static void undoOfAFullAccumulator() {
        Check.sentence("saves the whole state on an undo stack");
        AntilockBrakes x = rolling(60000);
        x.setDemand(400);
        x.run(12);
        for (int i = 0; i < 4; i++) {
            x.setFault(i, true);
        }
        x.run(4);
        Check.due("the accumulator", 570, () -> x.car(5));
        Check.due("four PHASE events and a FULL one", 5, x::events);
        x.setSpeed(60000);
        x.undo();
        x.run(1);
        Check.due("the accumulator", 550, () -> x.car(5));
        Check.due("no event more", 5, x::events);
        x.run(1);
        Check.due("wheel 0 is dumped, wheel 1 is not", 6, x::events);
        x.undo();
        x.undo();
        x.run(1);
        Check.due("no event more", 5, x::events);
    }

    private static void refusedCallsAreNotSaved() {
        Check.sentence("A call that throws an exception changes nothing.");
        AntilockBrakes x = new AntilockBrakes();
        x.setDemand(5);
        x.setDemand(6);
        x.setDemand(7);
        Check.refused("setSpeed", Check.ARGUMENT, x, () -> x.setSpeed(-1));
        Check.refused("addSegment", Check.ARGUMENT, x, () -> x.addSegment(-1, 0, 0));
        Check.refused("setDemand", Check.ARGUMENT, x, () -> x.setDemand(2001));
        Check.refused("plan", Check.ARGUMENT, x, () -> x.plan(5001, 0));
        Check.refused("setFault", Check.INDEX, x, () -> Check.number(x.setFault(4, true)));
        Check.refused("run", Check.ARGUMENT, x, () -> x.run(1001));
        Check.refused("stopDistance", Check.ARGUMENT, x, () -> x.stopDistance(0, 3, 0, true));
        Check.due("undo()", 2, x::undo);
        Check.due("the demand", 6, () -> x.car(3));
    }

    private static void questionsAreNotSaved() {
        Check.sentence("Every method that is marked \"undoable\" saves the whole state");
        AntilockBrakes x = new AntilockBrakes();
        x.setDemand(5);
        long before = x.digest();
        x.stopDistance(60000, 22, 2000, true);
        x.car(9);
        x.wheel(3, 11);
        x.friction(3);
        x.frictionFor(2, 1000);
        x.segments();
        x.segment(0, 2);
        x.planned();
        x.events();
        x.digest();
        Check.due("digest()", before, x::digest);
        Check.due("undo()", 0, x::undo);
        Check.refused("undo() again", Check.STATE, x, x::undo);
    }

    private static void firstListedException() {
        Check.sentence("If several exceptions of a method apply, the one that is listed first is thrown.");
        AntilockBrakes x = new AntilockBrakes();
        Check.refused("wheel(4, 12)", Check.INDEX, x, () -> x.wheel(4, 12));
        Check.refused("wheel(-1, -1)", Check.INDEX, x, () -> x.wheel(-1, -1));
        Check.refused("segment(1, 3)", Check.INDEX, x, () -> x.segment(1, 3));
        Check.refused("segment(-1, -1)", Check.INDEX, x, () -> x.segment(-1, -1));
        Check.refused("event(0, 3)", Check.INDEX, x, () -> x.event(0, 3));
        Check.refused("event(-1, -1)", Check.INDEX, x, () -> x.event(-1, -1));
        for (int i = 1; i <= 11; i++) {
            x.addSegment(i, 0, 0);
        }
        for (int i = 1; i <= 10; i++) {
            x.plan(i, 0);
        }
        Check.refused("addSegment(20, 0, 0)", Check.STATE, x, () -> x.addSegment(20, 0, 0));
        Check.refused("addSegment(20, 3, 0)", Check.ARGUMENT, x, () -> x.addSegment(20, 3, 0));
        Check.refused("plan(1, 0)", Check.STATE, x, () -> x.plan(1, 0));
        Check.refused("plan(5001, 0)", Check.ARGUMENT, x, () -> x.plan(5001, 0));
    }

    private static void digest() {
        Check.sentence("h becomes 31 * h + v (long arithmetic, overflow wraps)");
        AntilockBrakes x = rolling(20000);
        x.addSegment(0, 2, 1);
        x.addSegment(100000000, 1, 2);
        x.setFault(3, true);
        x.setDemand(2000);
        x.run(30);
        x.plan(5000, 2000);
        x.plan(1, 0);
        BigInteger h = BigInteger.valueOf(19707);
        for (long v : values(x, 3, new long[] {0, 0, 0, 1}, new long[] {31, 0, 5030, 2000})) {
            h = h.multiply(BigInteger.valueOf(31)).add(BigInteger.valueOf(v));
        }
        Check.yes("it overflows", h.bitLength() > 64);
        Check.due("digest()", h.longValue(), x::digest);
    }

    private static List<Long> values(AntilockBrakes x, long states, long[] faults, long[] plan) {
        List<Long> values = new ArrayList<>(List.of(states));
        for (int what = 0; what <= 9; what++) {
            values.add((long) x.car(what));
        }
        for (int wheel = 0; wheel < 4; wheel++) {
            for (int what = 0; what <= 11; what++) {
                values.add((long) x.wheel(wheel, what));
            }
            values.add((long) x.friction(wheel));
            values.add(faults[wheel]);
        }
        values.add((long) x.segments());
        for (int i = 0; i < 3 * x.segments(); i++) {
            values.add((long) x.segment(i / 3, i % 3));
        }
        values.add(plan.length / 2L);
        for (long value : plan) {
            values.add(value);
        }
        values.add((long) x.events());
        for (int i = 0; i < 3 * x.events(); i++) {
            values.add((long) x.event(i / 3, i % 3));
        }
        return values;
    }

    private static void digestOfStates() {
        Check.sentence("the number of states on the undo stack");
        AntilockBrakes x = new AntilockBrakes();
        long[] want = {0, 1, 2, 3, 3, 3};
        for (int i = 0; i < want.length; i++) {
            long h = 19707;
            for (long v : values(x, want[i], new long[4], new long[0])) {
                h = 31 * h + v;
            }
            Check.due("digest() after " + i + " calls", h, x::digest);
            x.setDemand(0);
        }
    }

    // 512 calls: the first and the last ones are told, the ones between let as much time pass as they can.
    private static void lastOfTheCalls() {
        Check.sentence("An object is used for at most 512 calls after it has been made");
        AntilockBrakes x = rolling(60000);
        for (int i = 2; i <= 509; i++) {
            x.stop();
        }
        Check.due("call 510, X", 508L * 5000 * 600, () -> x.car(1));
        Check.due("call 511, the time", 508L * 5000, () -> x.car(2));
        Check.due("call 512, a plan", 1, () -> x.plan(5000, 0));
    }
}
