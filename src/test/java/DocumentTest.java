/**
 * The document from its first line to its last one: a method for each sentence that names no boundary case, and that no
 * Boundary test quotes therefore. The public face is tested by FaceTest, the examples by ExamplesTest.
 */
public final class DocumentTest {
    private static final int V = 0, X = 1, TIME = 2, DEMAND = 3, R = 4, ACCUMULATOR = 5, ON = 9;
    private static final int W = 0, P = 1, PHASE = 2, PHASE_TICKS = 3, CYCLES = 4, VALVES = 5, LOCKED = 6,
            EXCLUDED = 7, SUSPICION = 8, SLIP = 9, E = 10, A = 11;

    private DocumentTest() {
    }

    public static void main(String[] args) {
        units();
        sides();
        axles();
        atFirst();
        surfaces();
        orderOfATick();
        wantedPressure();
        ascendingOrder();
        kindsOfEvents();
        setSpeed();
        addSegment();
        setDemand();
        plan();
        setFault();
        setOn();
        everySetUpIsUndoable();
        run();
        stop();
        stopDistance();
        valuesOfTheCar();
        valuesOfAWheel();
        friction();
        digest();
        Check.end();
    }

    private static AntilockBrakes rolling(int speed) {
        AntilockBrakes x = new AntilockBrakes();
        x.setSpeed(speed);
        return x;
    }

    private static AntilockBrakes braking(int left, int right, int speed, int demand) {
        AntilockBrakes x = rolling(speed);
        x.addSegment(0, left, right);
        x.setDemand(demand);
        return x;
    }

    /** A car whose pressures have all come to 400 in 12 ticks, with all its wheels NORMAL. */
    private static AntilockBrakes pressed() {
        AntilockBrakes x = braking(0, 0, 60000, 400);
        x.run(12);
        return x;
    }

    private static void eachWheel(AntilockBrakes x, String name, int what, long... want) {
        for (int i = 0; i < 4; i++) {
            int wheel = i;
            Check.due(name + " of wheel " + i, want[i], () -> x.wheel(wheel, what));
        }
    }

    private static void units() {
        Check.sentence("One tick is a hundredth of a second. Speeds are in millimetres per second, positions in "
                + "millimetres.");
        AntilockBrakes x = rolling(12300);
        x.run(100);
        Check.due("the way of a second", 12300, () -> x.car(X));
    }

    private static void sides() {
        Check.sentence("The wheels are 0 front left, 1 front right, 2 rear left, 3 rear right");
        AntilockBrakes x = SetUpTest.locked(0);
        x.addSegment(x.car(X), AntilockBrakes.WET, AntilockBrakes.ICE);
        long[] want = {420, 90, 420, 90};
        for (int i = 0; i < 4; i++) {
            int wheel = i;
            Check.due("the friction of wheel " + i, want[i], () -> x.friction(wheel));
        }
    }

    private static void axles() {
        Check.sentence("0 and 1 form the front axle, 2 and 3 the rear axle");
        for (int i = 0; i < 4; i++) {
            int silent = i;
            AntilockBrakes x = rolling(30000);
            x.addSegment(0, 2, 2);
            x.setFault(silent, true);
            x.run(25);
            x.setDemand(2000);
            x.run(60);
            for (int k = 0; k < 4; k++) {
                boolean sameAxle = k / 2 == silent / 2;
                Check.yes("wheel " + k + " is " + (sameAxle ? "not " : "") + "controlled without wheel " + silent,
                        sameAxle == (x.wheel(k, VALVES) == 0));
            }
        }
    }

    private static void atFirst() {
        AntilockBrakes x = new AntilockBrakes();
        Check.sentence("Each wheel has a speed W (0 at first) and a brake pressure P (0 at first).");
        eachWheel(x, "W", W, 0, 0, 0, 0);
        eachWheel(x, "P", P, 0, 0, 0, 0);
        Check.sentence("A wheel may be excluded (none is at first).");
        eachWheel(x, "whether it is excluded", EXCLUDED, 0, 0, 0, 0);
        Check.sentence("The reference speed R (0 at first)");
        Check.due("R", 0, () -> x.car(R));
        Check.sentence("Each wheel has a phase, NORMAL (0) at first.");
        eachWheel(x, "the phase", PHASE, 0, 0, 0, 0);
    }

    private static void surfaces() {
        Check.sentence("The surfaces are DRY (0), WET (1) and ICE (2), with a peak friction F of 1000, 600 and 150, "
                + "and a slide share Q of 750, 700 and 600.");
        AntilockBrakes x = new AntilockBrakes();
        long[] peaks = {1000, 600, 150};
        long[] shares = {750, 700, 600};
        int[] names = {AntilockBrakes.DRY, AntilockBrakes.WET, AntilockBrakes.ICE};
        for (int i = 0; i < 3; i++) {
            int surface = i;
            Check.same("the constant of surface " + i, i, names[i]);
            Check.due("the peak of surface " + i, peaks[i], () -> x.frictionFor(surface, 150));
            Check.due("the slide of surface " + i, peaks[i] * shares[i] / 1000, () -> x.frictionFor(surface, 1000));
        }
    }

    // V falls by the old friction, W is held under the new V, and the controller measures the new W.
    private static void orderOfATick() {
        Check.sentence("(6) The controller acts, as described below.");
        AntilockBrakes x = braking(1, 2, 24000, 1500);
        long[][] measured = new long[4][60];
        for (int tick = 0; tick < 60; tick++) {
            long speed = x.car(V);
            long position = x.car(X);
            long frictions = 0;
            for (int wheel = 0; wheel < 4; wheel++) {
                frictions += x.friction(wheel);
            }
            Check.due("V after tick " + tick, speed - frictions / 40, () -> x.run(1));
            Check.due("X after tick " + tick, position + speed / 100, () -> x.car(X));
            for (int wheel = 0; wheel < 4; wheel++) {
                measured[wheel][tick] = x.wheel(wheel, W);
                measuresTheNewSpeed(x, wheel, measured[wheel], tick);
            }
        }
        Check.yes("wheels were dumped", x.wheel(1, CYCLES) > 0);
    }

    private static void measuresTheNewSpeed(AntilockBrakes x, int wheel, long[] measured, int tick) {
        int oldest = Math.max(tick - 4, 0);
        long change = measured[tick] - measured[oldest];
        Check.due("A in tick " + tick, tick == 0 ? 0 : Math.floorDiv(change, tick - oldest), () -> x.wheel(wheel, A));
        long behind = Math.max(x.car(R) - measured[tick], 0);
        Check.due("E in tick " + tick, 1000 * behind / x.car(R), () -> x.wheel(wheel, E));
    }

    private static void wantedPressure() {
        Check.sentence("The wanted pressure is the demand");
        AntilockBrakes x = pressed();
        eachWheel(x, "P", P, 400, 400, 400, 400);
    }

    // Of the accumulator's last room, 540 to 550, the first wheel alone can be dumped.
    private static void ascendingOrder() {
        Check.sentence("Then, for the wheels in ascending order");
        AntilockBrakes x = pressed();
        for (int wheel = 0; wheel < 4; wheel++) {
            x.setFault(wheel, true);
        }
        x.run(3);
        Check.due("the accumulator", 540, () -> x.car(ACCUMULATOR));
        x.run(1);
        eachWheel(x, "P", P, 200, 250, 250, 250);
        int last = x.events() - 1;
        Check.due("the last event's kind", AntilockBrakes.FULL, () -> x.event(last, 1));
        Check.due("the last event's wheel", 1, () -> x.event(last, 2));
    }

    private static void kindsOfEvents() {
        Check.sentence("An event has a time, a kind, PHASE (0), EXCLUDED (1) or FULL (2), and a value.");
        AntilockBrakes x = pressed();
        for (int wheel = 0; wheel < 4; wheel++) {
            x.setFault(wheel, true);
        }
        x.run(4);
        eventIs(x, 2, 13, 0, 22);
        eventIs(x, 4, 16, 2, 1);
        x.setSpeed(60000);
        x.run(25);
        eventIs(x, 5, 41, 1, 0);
        eventIs(x, 8, 41, 1, 3);
    }

    private static void eventIs(AntilockBrakes x, int index, long... want) {
        for (int what = 0; what < 3; what++) {
            int asked = what;
            Check.due("event(" + index + ", " + what + ")", want[what], () -> x.event(index, asked));
        }
    }

    private static void setSpeed() {
        Check.sentence("Sets the speed of the car .. Returns the previous V.");
        AntilockBrakes x = braking(0, 0, 20000, 800);
        int speed = x.run(30);
        Check.yes("the car is slower", speed < 20000);
        Check.due("setSpeed(15000)", speed, () -> x.setSpeed(15000));
        Check.due("V", 15000, () -> x.car(V));
    }

    private static void addSegment() {
        Check.sentence("Adds a segment to the road. .. Returns the number of segments.");
        AntilockBrakes x = new AntilockBrakes();
        Check.due("addSegment(700, 1, 2)", 2, () -> x.addSegment(700, 1, 2));
        Check.due("its start", 700, () -> x.segment(1, 0));
        Check.due("its left surface", 1, () -> x.segment(1, 1));
        Check.due("its right surface", 2, () -> x.segment(1, 2));
    }

    private static void setDemand() {
        Check.sentence("Sets the demand at once. .. Returns the previous demand.");
        AntilockBrakes x = new AntilockBrakes();
        x.plan(1, 60);
        Check.due("setDemand(50)", 0, () -> x.setDemand(50));
        Check.due("the demand", 50, () -> x.car(DEMAND));
        x.run(1);
        Check.due("setDemand(70) after the plan's 60", 60, () -> x.setDemand(70));
    }

    private static void plan() {
        Check.sentence("its time has come in the tick whose time is the present time + delay .. Returns the number of "
                + "entries of the plan.");
        AntilockBrakes x = new AntilockBrakes();
        x.run(40);
        Check.due("plan(3, 500)", 1, () -> x.plan(3, 500));
        x.run(2);
        Check.due("the demand at 42", 0, () -> x.car(DEMAND));
        x.run(1);
        Check.due("the demand at 43", 500, () -> x.car(DEMAND));
    }

    private static void setFault() {
        Check.sentence("Makes the sensor of a wheel faulty, or not. .. faulty: true if it is faulty .. Returns true if "
                + "it was faulty before.");
        AntilockBrakes x = rolling(8000);
        Check.due("setFault(1, true)", 0, () -> Check.number(x.setFault(1, true)));
        x.run(1);
        eachWheel(x, "E", E, 0, 1000, 0, 0);
        Check.due("setFault(1, false)", 1, () -> Check.number(x.setFault(1, false)));
        x.run(1);
        eachWheel(x, "E", E, 0, 0, 0, 0);
        Check.due("setFault(1, false) again", 0, () -> Check.number(x.setFault(1, false)));
    }

    private static void setOn() {
        Check.sentence("Switches the controller on or off. .. on: true for on");
        AntilockBrakes x = braking(2, 2, 20000, 1500);
        x.setOn(false);
        Check.due("car(9) when off", 0, () -> x.car(ON));
        x.run(20);
        eachWheel(x, "the valve count when off", VALVES, 0, 0, 0, 0);
        x.setOn(true);
        Check.due("car(9) when on", 1, () -> x.car(ON));
        x.run(1);
        eachWheel(x, "the valve count when on", VALVES, 1, 1, 1, 1);
        eachWheel(x, "the cycles when on", CYCLES, 1, 1, 1, 1);
    }

    private static void everySetUpIsUndoable() {
        Check.sentence("Undoable.");
        AntilockBrakes x = braking(1, 1, 20000, 900);
        x.setFault(0, true);
        x.run(30);
        for (int left = 2; left >= 0; left--) {
            Check.due("states left", left, x::undo);
        }
        Check.Call[] calls = {() -> x.setSpeed(5), () -> x.addSegment(7, 1, 1), () -> x.setDemand(7),
            () -> x.plan(3, 9), () -> Check.number(x.setFault(1, true)), () -> Check.number(x.setOn(false)),
            x::repair, () -> x.run(9), x::stop};
        long before = x.digest();
        for (int i = 0; i < calls.length; i++) {
            calls[i].answer();
            Check.due("undo() of call " + i, 0, x::undo);
            Check.due("digest() after undo() of call " + i, before, x::digest);
        }
    }

    private static void run() {
        Check.sentence("Lets ticks pass. .. Returns v afterwards.");
        AntilockBrakes x = braking(0, 1, 20000, 800);
        Check.due("V of run(30), and of 30 times run(1)", thirtyTimesOne(), () -> x.run(30));
        Check.due("the time", 30, () -> x.car(TIME));
        Check.due("run(1)", Check.of(() -> x.car(V) - sumOfFrictions(x) / 40), () -> x.run(1));
    }

    private static long thirtyTimesOne() {
        AntilockBrakes x = braking(0, 1, 20000, 800);
        for (int i = 0; i < 29; i++) {
            x.run(1);
        }
        return x.run(1);
    }

    private static long sumOfFrictions(AntilockBrakes x) {
        return x.friction(0) + x.friction(1) + x.friction(2) + x.friction(3);
    }

    private static void stop() {
        Check.sentence("Lets ticks pass until V is 0 .. Returns the number of ticks");
        AntilockBrakes x = braking(0, 0, 20000, 800);
        AntilockBrakes y = braking(0, 0, 20000, 800);
        int ticks = x.stop();
        Check.due("V", 0, () -> x.car(V));
        Check.due("the time", ticks, () -> x.car(TIME));
        Check.yes("V is not 0 a tick earlier", y.run(ticks - 1) > 0);
    }

    private static void stopDistance() {
        Check.sentence("on: whether its controller is on .. Returns the position at the end.");
        AntilockBrakes x = new AntilockBrakes();
        for (int i = 0; i <= 1; i++) {
            boolean on = i == 1;
            AntilockBrakes y = braking(2, 0, 30000, 1500);
            y.setOn(on);
            y.stop();
            Check.due("stopDistance(.., " + on + ")", y.car(X), () -> x.stopDistance(30000, 20, 1500, on));
        }
        Check.yes("the controller makes a difference",
                x.stopDistance(30000, 20, 1500, true) != x.stopDistance(30000, 20, 1500, false));
    }

    private static void valuesOfTheCar() {
        Check.sentence("2 time, 3 demand, 4 R, 5 accumulator, 6 pump ticks, 7 yaw allowance");
        AntilockBrakes x = pressed();
        x.setFault(1, true);
        x.run(2);
        Check.due("the time", 14, () -> x.car(2));
        Check.due("the demand", 400, () -> x.car(3));
        // The wheels lose 80 in the second tick, and more than 120 in each one after it.
        Check.due("R", 60000 - 80 - 12 * 120, () -> x.car(4));
        Check.due("the accumulator", 60, () -> x.car(5));
        Check.due("the pump ticks", 2, () -> x.car(6));
        Check.due("the yaw allowance", 158, () -> x.car(7));
    }

    private static void valuesOfAWheel() {
        Check.sentence("2 phase, 3 phase ticks, 4 cycles, 5 valve count, 6 locked ticks, 7 1 if it is excluded or 0 if "
                + "not, 8 suspicion, 9 slip");
        AntilockBrakes x = pressed();
        x.setFault(1, true);
        x.run(6);
        long[] dumped = {AntilockBrakes.DUMP, 5, 1, 1, 0, 0, 6};
        for (int i = 0; i < dumped.length; i++) {
            int what = PHASE + i;
            Check.due("wheel(1, " + what + ")", dumped[i], () -> x.wheel(1, what));
        }
        x.run(19);
        Check.due("excluded", 1, () -> x.wheel(1, EXCLUDED));
        Check.due("its suspicion", 25, () -> x.wheel(1, SUSPICION));
        Check.due("its phase ticks as NORMAL", 0, () -> x.wheel(1, PHASE_TICKS));
        AntilockBrakes y = SetUpTest.locked(2);
        y.run(7);
        Check.due("the locked ticks", 8, () -> y.wheel(3, LOCKED));
        Check.due("the slip of a locked wheel", 1000, () -> y.wheel(3, SLIP));
    }

    private static void friction() {
        Check.sentence("Returns the friction for a slip.");
        AntilockBrakes x = braking(1, 2, 24000, 1500);
        for (int tick = 0; tick < 40; tick++) {
            x.run(1);
            for (int i = 0; i < 4; i++) {
                int wheel = i;
                Check.due("the friction of wheel " + i, x.friction(i),
                        () -> x.frictionFor(1 + wheel % 2, x.wheel(wheel, SLIP)));
            }
        }
    }

    private static void digest() {
        Check.sentence("Returns a hash of the state. It starts with h = 19707.");
        long h = 19707;
        long[] car = {0, 0, 0, 0, 0, 0, 0, 0, 150, 0, 1};
        for (long v : car) {
            h = 31 * h + v;
        }
        for (int i = 0; i < 4 * 14; i++) {
            h = 31 * h;
        }
        long[] rest = {1, 0, 0, 0, 0, 0};
        for (long v : rest) {
            h = 31 * h + v;
        }
        Check.due("digest() of a new object", h, new AntilockBrakes()::digest);
    }
}
