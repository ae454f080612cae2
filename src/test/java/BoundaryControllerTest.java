/**
 * The boundary cases under "THE CONTROLLER" but for the phases: measured values, reference speed, suspicion, when it
 * is active, pressures, accumulator, yaw allowance and pump. A method for each sentence that names one.
 */
public final class BoundaryControllerTest {
    private static final int V = 0, R = 4, ACCUMULATOR = 5, PUMP_TICKS = 6, YAW = 7, ACTIVE = 8;
    private static final int W = 0, P = 1, PHASE = 2, PHASE_TICKS = 3, EXCLUDED = 7, SUSPICION = 8, E = 10, A = 11;
    private static final int NORMAL = AntilockBrakes.NORMAL, HOLD = AntilockBrakes.HOLD, DUMP = AntilockBrakes.DUMP,
            RECOVER = AntilockBrakes.RECOVER, BUILD = AntilockBrakes.BUILD;

    private BoundaryControllerTest() {
    }

    public static void main(String[] args) {
        faultySensor();
        fiveMeasuredValues();
        onlyOneValue();
        greatestOfNone();
        excludedWheelDoesNotCount();
        referenceRises();
        referenceFalls();
        estimatedSlip();
        suspicionByReference();
        suspicionByMeasuredValue();
        suspicionOfTwentyFive();
        excludedWheelIsNotSuspected();
        activeBySwitch();
        activeByDemand();
        activeByReference();
        activeByExcludedWheels();
        controlledByAxle();
        wantedPressureOfTheRear();
        normalPressureRises();
        normalPressureFalls();
        holdAndRecover();
        dumpNotBelowZero();
        dumpUpToFull();
        fullIsLoggedOnce();
        fullIsLoggedAnewAfterSetSpeed();
        buildOnOddTicks();
        buildUpToWanted();
        yawOfNormalWheels();
        yawLimit();
        yawUpToItsGreatest();
        pump();
        Check.end();
    }

    private static AntilockBrakes braking(int left, int right, int speed, int demand, int ticks) {
        AntilockBrakes x = new AntilockBrakes();
        x.addSegment(0, left, right);
        x.setSpeed(speed);
        x.setDemand(demand);
        if (ticks > 0) {
            x.run(ticks);
        }
        return x;
    }

    /** A car that rolls without a demand, with these sensors faulty. */
    private static AntilockBrakes rolling(int speed, int... faulty) {
        AntilockBrakes x = new AntilockBrakes();
        x.setSpeed(speed);
        for (int wheel : faulty) {
            x.setFault(wheel, true);
        }
        return x;
    }

    /** A car that has rolled a tick at this speed; then these sensors fail, which looks like a deep slip. */
    private static AntilockBrakes deep(int speed, int... faulty) {
        AntilockBrakes x = rolling(speed);
        x.run(1);
        for (int wheel : faulty) {
            x.setFault(wheel, true);
        }
        return x;
    }

    private static void phases(AntilockBrakes x, String name, long... want) {
        for (int i = 0; i < 4; i++) {
            int wheel = i;
            Check.due(name + ": the phase of wheel " + i, want[i], () -> x.wheel(wheel, PHASE));
        }
    }

    private static void faultySensor() {
        Check.sentence("It measures M of each wheel: W, but 0 if its sensor is faulty (none is at first).");
        AntilockBrakes x = rolling(5000);
        for (int i = 0; i < 4; i++) {
            int wheel = i;
            Check.due("faulty at first", 0, () -> Check.number(x.setFault(wheel, false)));
        }
        x.setFault(2, true);
        x.run(1);
        Check.due("W", 5000, () -> x.wheel(2, W));
        Check.due("E of the faulty one", 1000, () -> x.wheel(2, E));
        Check.due("E of another one", 0, () -> x.wheel(3, E));
    }

    private static void fiveMeasuredValues() {
        Check.sentence("It keeps the latest five measured values of each wheel, this one included. The acceleration A "
                + "of a wheel is floor((M - the oldest one of these values) / (number of these values - 1))");
        long[] want = {-6000, -3000, -2000, -1500, 0};
        AntilockBrakes x = deep(6000, 1);
        for (int i = 0; i < want.length; i++) {
            x.run(1);
            Check.due("A with " + (i + 2) + " values", want[i], () -> x.wheel(1, A));
        }
        x.setFault(1, false);
        long[] after = {1500, 1500, 1500, 1500, 0};
        for (int i = 0; i < after.length; i++) {
            x.run(1);
            Check.due("A " + (i + 1) + " ticks after the repair", after[i], () -> x.wheel(1, A));
        }
    }

    private static void onlyOneValue() {
        Check.sentence("and 0 if there is only one");
        AntilockBrakes x = rolling(6000, 0);
        x.run(1);
        Check.due("A of the first tick", 0, () -> x.wheel(0, A));
        AntilockBrakes again = deep(6000, 0);
        again.setSpeed(6000);
        again.run(1);
        Check.due("A of the first tick after setSpeed()", 0, () -> again.wheel(0, A));
    }

    private static void greatestOfNone() {
        Check.sentence("Let g be the greatest M of the wheels that are not excluded (0 if there are none).");
        AntilockBrakes x = rolling(60000, 0, 1, 2, 3);
        x.run(25);
        for (int i = 0; i < 4; i++) {
            int wheel = i;
            Check.due("excluded", 1, () -> x.wheel(wheel, EXCLUDED));
            x.setFault(i, false);
        }
        int before = x.car(R);
        x.run(1);
        Check.due("R falls towards 0", before - 120, () -> x.car(R));
        x.run(1000);
        Check.due("R at the end", 0, () -> x.car(R));
    }

    private static void excludedWheelDoesNotCount() {
        Check.sentence("the greatest M of the wheels that are not excluded");
        for (int counted = 0; counted < 4; counted++) {
            AntilockBrakes x = rolling(20000);
            for (int i = 0; i < 4; i++) {
                x.setFault(i, i != counted);
            }
            x.run(30);
            Check.due("R by wheel " + counted + " alone", 20000, () -> x.car(R));
            for (int i = 0; i < 4; i++) {
                x.setFault(i, i == counted);
            }
            x.run(1);
            Check.due("R without wheel " + counted, 20000 - 120, () -> x.car(R));
        }
    }

    private static void referenceRises() {
        Check.sentence("if g is at least R, the smaller one of g and R + 60");
        long[][] rows = {{59, 59}, {60, 60}, {61, 60}, {1, 1}};
        for (long[] row : rows) {
            AntilockBrakes x = rolling((int) row[0], 0, 1, 2, 3);
            x.run(1);
            Check.due("R without any M", 0, () -> x.car(R));
            x.setFault(3, false);
            x.run(1);
            Check.due("R by an M of " + row[0], row[1], () -> x.car(R));
        }
        AntilockBrakes same = rolling(7000);
        same.run(10);
        Check.due("R by an M of R", 7000, () -> same.car(R));
    }

    private static void referenceFalls() {
        Check.sentence("otherwise the greater one of g and R - 120");
        long[][] rows = {{119, 0}, {120, 0}, {121, 1}, {60000, 59880}};
        for (long[] row : rows) {
            AntilockBrakes x = rolling((int) row[0], 0, 1, 2, 3);
            x.run(1);
            Check.due("R from " + row[0], row[1], () -> x.car(R));
        }
        AntilockBrakes little = rolling(7000);
        little.setDemand(1);
        little.run(2);
        Check.due("R by an M that is 2 less", 6998, () -> little.car(R));
    }

    private static void estimatedSlip() {
        Check.sentence("The estimated slip E of a wheel is 0 if R is 0 or M is at least R, otherwise floor(1000 * "
                + "(R - M) / R).");
        AntilockBrakes zero = rolling(120, 0, 1, 2, 3);
        zero.run(1);
        Check.due("R", 0, () -> zero.car(R));
        Check.due("E with an R of 0", 0, () -> zero.wheel(0, E));
        AntilockBrakes one = rolling(121, 0, 1, 2, 3);
        one.run(1);
        Check.due("R", 1, () -> one.car(R));
        Check.due("E with an R of 1", 1000, () -> one.wheel(0, E));
        one.setFault(0, false);
        one.run(1);
        Check.due("R", 61, () -> one.car(R));
        Check.due("E with an M above R", 0, () -> one.wheel(0, E));
        one.run(1);
        Check.due("R", 121, () -> one.car(R));
        Check.due("E with an M of R", 0, () -> one.wheel(0, E));
        Check.due("E with an M of 0", 1000, () -> one.wheel(1, E));
        AntilockBrakes floor = braking(2, 2, 20000, 1500, 40);
        Check.due("E of the document's second example", 38, () -> floor.wheel(0, E));
    }

    private static void suspicionByReference() {
        Check.sentence("if M is 0 and R is at least 3000, its suspicion increases by 1, otherwise it becomes 0");
        AntilockBrakes below = rolling(2999, 1);
        below.run(1);
        Check.due("with an R of 2999", 0, () -> below.wheel(1, SUSPICION));
        AntilockBrakes at = rolling(3000, 1);
        at.run(1);
        Check.due("with an R of 3000", 1, () -> at.wheel(1, SUSPICION));
        AntilockBrakes falls = rolling(3240, 0, 1, 2, 3);
        falls.run(2);
        Check.due("R", 3000, () -> falls.car(R));
        Check.due("after two ticks with R at 3000 or more", 2, () -> falls.wheel(3, SUSPICION));
        falls.run(1);
        Check.due("R", 2880, () -> falls.car(R));
        Check.due("after a tick with R below 3000", 0, () -> falls.wheel(3, SUSPICION));
    }

    private static void suspicionByMeasuredValue() {
        Check.sentence("if M is 0 .. its suspicion increases by 1, otherwise it becomes 0");
        AntilockBrakes slow = braking(0, 1, 5930, 1800, 0);
        slow.setOn(false);
        slow.run(34);
        Check.due("M", 1, () -> slow.wheel(0, W));
        Check.yes("R is great enough", slow.car(R) >= 3000);
        Check.due("with an M of 1", 0, () -> slow.wheel(0, SUSPICION));
        AntilockBrakes locked = SetUpTest.locked(AntilockBrakes.ICE);
        Check.due("M", 0, () -> locked.wheel(0, W));
        Check.yes("a wheel that is locked, not faulty, is suspected too", locked.wheel(0, SUSPICION) > 0);
        AntilockBrakes heard = rolling(20000, 2);
        heard.run(24);
        Check.due("after 24 ticks", 24, () -> heard.wheel(2, SUSPICION));
        heard.setFault(2, false);
        heard.run(1);
        Check.due("after a tick with an M", 0, () -> heard.wheel(2, SUSPICION));
        heard.setFault(2, true);
        heard.run(24);
        Check.due("after 24 ticks again", 24, () -> heard.wheel(2, SUSPICION));
        Check.due("excluded", 0, () -> heard.wheel(2, EXCLUDED));
    }

    private static void suspicionOfTwentyFive() {
        Check.sentence("if it is 25, the wheel is excluded, and an event EXCLUDED with the wheel as its value is "
                + "logged");
        for (int i = 0; i < 4; i++) {
            int wheel = i;
            AntilockBrakes x = rolling(20000, wheel);
            x.run(24);
            Check.due("excluded after 24 ticks", 0, () -> x.wheel(wheel, EXCLUDED));
            Check.due("events after 24 ticks", 0, x::events);
            x.run(1);
            Check.due("suspicion after 25 ticks", 25, () -> x.wheel(wheel, SUSPICION));
            Check.due("excluded after 25 ticks", 1, () -> x.wheel(wheel, EXCLUDED));
            Check.due("events after 25 ticks", 1, x::events);
            Check.due("the event's time", 25, () -> x.event(0, 0));
            Check.due("the event's kind", AntilockBrakes.EXCLUDED, () -> x.event(0, 1));
            Check.due("the event's value", wheel, () -> x.event(0, 2));
        }
    }

    private static void excludedWheelIsNotSuspected() {
        Check.sentence("Then, for each wheel that is not excluded");
        AntilockBrakes x = rolling(20000, 3);
        x.run(75);
        Check.due("the suspicion of an excluded wheel", 25, () -> x.wheel(3, SUSPICION));
        Check.due("it is excluded once", 1, x::events);
        x.setFault(3, false);
        x.run(1);
        Check.due("its suspicion with an M", 25, () -> x.wheel(3, SUSPICION));
        Check.due("it stays excluded", 1, () -> x.wheel(3, EXCLUDED));
    }

    private static void activeBySwitch() {
        Check.sentence("The controller is active if it is switched on (as it is at first)");
        AntilockBrakes x = deep(20000, 0);
        x.setDemand(100);
        Check.due("at first", 1, () -> x.car(ACTIVE));
        x.setOn(false);
        Check.due("off", 0, () -> x.car(ACTIVE));
        x.run(1);
        phases(x, "off", NORMAL, NORMAL, NORMAL, NORMAL);
        AntilockBrakes on = deep(20000, 0);
        on.setDemand(100);
        on.setOn(true);
        on.run(1);
        phases(on, "on", DUMP, NORMAL, NORMAL, NORMAL);
    }

    private static void activeByDemand() {
        Check.sentence("the demand is greater than 0");
        AntilockBrakes none = deep(20000, 0);
        Check.due("a demand of 0", 0, () -> none.car(ACTIVE));
        none.run(1);
        phases(none, "a demand of 0", NORMAL, NORMAL, NORMAL, NORMAL);
        AntilockBrakes least = deep(20000, 0);
        least.setDemand(1);
        Check.due("a demand of 1", 1, () -> least.car(ACTIVE));
        least.run(1);
        phases(least, "a demand of 1", DUMP, NORMAL, NORMAL, NORMAL);
    }

    private static void activeByReference() {
        Check.sentence("R is at least 1400");
        AntilockBrakes below = deep(1399, 0);
        below.setDemand(1);
        Check.due("an R of 1399", 0, () -> below.car(ACTIVE));
        below.run(1);
        Check.due("R", 1399, () -> below.car(R));
        phases(below, "an R of 1399", NORMAL, NORMAL, NORMAL, NORMAL);
        AntilockBrakes at = deep(1400, 0);
        at.setDemand(1);
        Check.due("an R of 1400", 1, () -> at.car(ACTIVE));
        at.run(1);
        Check.due("R", 1400, () -> at.car(R));
        phases(at, "an R of 1400", DUMP, NORMAL, NORMAL, NORMAL);
        at.run(1);
        Check.due("R", 1398, () -> at.car(R));
        phases(at, "an R that has fallen to 1398", NORMAL, NORMAL, NORMAL, NORMAL);
    }

    private static void activeByExcludedWheels() {
        Check.sentence("and fewer than two wheels are excluded");
        AntilockBrakes one = rolling(20000, 2);
        one.run(25);
        one.setFault(0, true);
        one.setDemand(100);
        Check.due("one is excluded", 1, () -> one.car(ACTIVE));
        one.run(1);
        phases(one, "one is excluded", DUMP, NORMAL, NORMAL, NORMAL);
        AntilockBrakes two = rolling(20000, 2, 3);
        two.run(25);
        two.setFault(0, true);
        two.setDemand(100);
        Check.due("two are excluded", 0, () -> two.car(ACTIVE));
        two.run(1);
        phases(two, "two are excluded", NORMAL, NORMAL, NORMAL, NORMAL);
        AntilockBrakes all = rolling(60000, 0, 1, 2, 3);
        all.run(25);
        all.setDemand(100);
        Check.due("four are excluded", 0, () -> all.car(ACTIVE));
    }

    private static void controlledByAxle() {
        Check.sentence("A wheel is controlled if the controller is active and no wheel of its axle is excluded.");
        for (int excluded = 0; excluded < 4; excluded++) {
            AntilockBrakes x = rolling(20000, excluded);
            x.run(25);
            int partner = excluded ^ 1;
            int across = excluded ^ 2;
            x.setFault(partner, true);
            x.setFault(across, true);
            x.setDemand(100);
            x.run(1);
            Check.due("active", 1, () -> x.car(ACTIVE));
            int whole = excluded;
            Check.due("the excluded wheel " + excluded, NORMAL, () -> x.wheel(whole, PHASE));
            Check.due("the other one of its axle", NORMAL, () -> x.wheel(partner, PHASE));
            Check.due("a wheel of the other axle", DUMP, () -> x.wheel(across, PHASE));
        }
    }

    private static void wantedPressureOfTheRear() {
        Check.sentence("for a rear wheel, if a wheel of the rear axle is excluded, it is the smaller one of the demand "
                + "and 500");
        int[] demands = {499, 500, 501, 2000};
        for (int demand : demands) {
            for (int excluded = 0; excluded < 4; excluded++) {
                AntilockBrakes x = rolling(60000, excluded);
                x.run(25);
                x.setOn(false);
                x.setDemand(demand);
                x.run(60);
                String name = "P with wheel " + excluded + " excluded and a demand of " + demand;
                long rear = excluded < 2 ? demand : Math.min(demand, 500);
                Check.due(name, demand, () -> x.wheel(0, P));
                Check.due(name, demand, () -> x.wheel(1, P));
                Check.due(name, rear, () -> x.wheel(2, P));
                Check.due(name, rear, () -> x.wheel(3, P));
            }
        }
    }

    private static void normalPressureRises() {
        Check.sentence("NORMAL: P becomes the smaller one of P + 40 and the wanted pressure if it is less than this");
        long[][] rows = {{100, 139, 139}, {100, 140, 140}, {100, 141, 140}, {100, 101, 101}, {0, 1, 1}};
        for (long[] row : rows) {
            AntilockBrakes x = new AntilockBrakes();
            x.setDemand((int) row[0]);
            x.run(10);
            x.setDemand((int) row[1]);
            x.run(1);
            for (int i = 0; i < 4; i++) {
                int wheel = i;
                Check.due("P from " + row[0] + " to " + row[1], row[2], () -> x.wheel(wheel, P));
            }
        }
    }

    private static void normalPressureFalls() {
        Check.sentence("otherwise the greater one of P - 80 and the wanted pressure");
        long[][] rows = {{200, 200, 200}, {200, 199, 199}, {200, 121, 121}, {200, 120, 120}, {200, 119, 120},
            {200, 0, 120}, {80, 0, 0}, {79, 0, 0}, {81, 0, 1}};
        for (long[] row : rows) {
            AntilockBrakes x = new AntilockBrakes();
            x.setDemand((int) row[0]);
            x.run(10);
            x.setDemand((int) row[1]);
            x.run(1);
            for (int i = 0; i < 4; i++) {
                int wheel = i;
                Check.due("P from " + row[0] + " to " + row[1], row[2], () -> x.wheel(wheel, P));
            }
        }
    }

    private static void holdAndRecover() {
        Check.sentence("HOLD and RECOVER: P becomes the smaller one of P and the wanted pressure.");
        int[][] demands = {{321, 320}, {320, 320}, {319, 319}, {1, 1}};
        for (int[] row : demands) {
            AntilockBrakes x = braking(2, 1, 11000, 1600, 11);
            Check.due("P before", 320, () -> x.wheel(0, P));
            x.setDemand(row[0]);
            x.run(1);
            Check.due("HOLD", HOLD, () -> x.wheel(0, PHASE));
            Check.due("P in HOLD with a demand of " + row[0], row[1], () -> x.wheel(0, P));
        }
        int[][] later = {{521, 520}, {520, 520}, {519, 519}, {1, 1}};
        for (int[] row : later) {
            AntilockBrakes x = braking(0, 1, 6000, 600, 35);
            Check.due("P before", 520, () -> x.wheel(0, P));
            x.setDemand(row[0]);
            x.run(1);
            Check.due("RECOVER", RECOVER, () -> x.wheel(0, PHASE));
            Check.due("P in RECOVER with a demand of " + row[0], row[1], () -> x.wheel(0, P));
        }
    }

    /** A car whose pressures are all at a demand of 51 or less; then the sensor of wheel 1 fails. */
    private static AntilockBrakes lightly(int demand) {
        AntilockBrakes x = rolling(60000);
        x.setDemand(demand);
        x.run(2);
        x.setFault(1, true);
        return x;
    }

    private static void dumpNotBelowZero() {
        Check.sentence("P decreases by 50, but not below 0, and the accumulator increases by as much as P decreases");
        long[][] rows = {{51, 1, 30}, {50, 0, 30}, {49, 0, 29}, {21, 0, 1}, {20, 0, 0}, {1, 0, 0}};
        for (long[] row : rows) {
            AntilockBrakes x = lightly((int) row[0]);
            Check.due("P before", row[0], () -> x.wheel(1, P));
            x.run(1);
            Check.due("DUMP", DUMP, () -> x.wheel(1, PHASE));
            Check.due("P from " + row[0], row[1], () -> x.wheel(1, P));
            Check.due("the accumulator, less the pump's 20", row[2], () -> x.car(ACCUMULATOR));
        }
        AntilockBrakes empty = lightly(1);
        empty.run(3);
        Check.due("DUMP", DUMP, () -> empty.wheel(1, PHASE));
        Check.due("P of 0", 0, () -> empty.wheel(1, P));
        Check.due("nothing for the accumulator", 0, () -> empty.car(ACCUMULATOR));
        Check.due("nothing for the pump", 1, () -> empty.car(PUMP_TICKS));
    }

    private static void dumpUpToFull() {
        Check.sentence("DUMP: if the accumulator (0 at first) is at most 550, P decreases by 50 .. otherwise P stays");
        AntilockBrakes at = braking(2, 2, 3000, 1021, 13);
        Check.due("the accumulator before", 550, () -> at.car(ACCUMULATOR));
        Check.due("P before", 120, () -> at.wheel(0, P));
        at.run(1);
        Check.due("DUMP", DUMP, () -> at.wheel(0, PHASE));
        Check.due("P with 550", 70, () -> at.wheel(0, P));
        Check.due("the accumulator", 550 + 50 - 20, () -> at.car(ACCUMULATOR));
        AntilockBrakes above = braking(2, 2, 6000, 281, 35);
        Check.due("the accumulator before", 551, () -> above.car(ACCUMULATOR));
        Check.due("P before", 151, () -> above.wheel(1, P));
        above.run(1);
        Check.due("DUMP", DUMP, () -> above.wheel(1, PHASE));
        Check.due("P with 551", 151, () -> above.wheel(1, P));
        Check.due("the accumulator", 551 - 20, () -> above.car(ACCUMULATOR));
    }

    /** A car at 60000 whose pressures have all come to 400; then all sensors fail, and all wheels are dumped. */
    private static AntilockBrakes allDumped(int ticks) {
        AntilockBrakes x = new AntilockBrakes();
        dumpAll(x, ticks);
        return x;
    }

    private static void dumpAll(AntilockBrakes x, int ticks) {
        x.setSpeed(60000);
        x.setDemand(400);
        for (int i = 0; i < 4; i++) {
            x.setFault(i, false);
        }
        x.run(12);
        for (int i = 0; i < 4; i++) {
            x.setFault(i, true);
        }
        x.run(ticks);
    }

    private static void fullIsLoggedOnce() {
        Check.sentence("and if this was not so for the wheel that was to be dumped last before (or there was none), an "
                + "event FULL with the wheel is logged");
        // The first four events are the PHASE events. A pump of 20 a tick makes room now and then for one wheel.
        long[] accumulator = {180, 360, 540, 570, 550, 580, 560, 540, 570};
        int[] events = {4, 4, 4, 5, 5, 6, 6, 6, 7};
        AntilockBrakes x = allDumped(1);
        for (int i = 0; i < events.length; i++) {
            Check.due("the accumulator after dump " + (i + 1), accumulator[i], () -> x.car(ACCUMULATOR));
            Check.due("the events after dump " + (i + 1), events[i], x::events);
            x.run(1);
        }
        for (int i = 4; i < 7; i++) {
            int index = i;
            Check.due("kind", AntilockBrakes.FULL, () -> x.event(index, 1));
            Check.due("value: wheel 0 was dumped, wheel 1 is the first that is not", 1, () -> x.event(index, 2));
        }
    }

    // setSpeed() empties the accumulator too, so that the first wheel after it always finds room.
    private static void fullIsLoggedAnewAfterSetSpeed() {
        Check.sentence("it is as if no wheel had been to be dumped yet");
        AntilockBrakes x = allDumped(4);
        Check.due("four PHASE events and a FULL one", 5, x::events);
        dumpAll(x, 3);
        Check.due("four PHASE events more", 9, x::events);
        x.run(1);
        Check.due("and a FULL one", 10, x::events);
        Check.due("its kind", AntilockBrakes.FULL, () -> x.event(9, 1));
        Check.due("its value", 1, () -> x.event(9, 2));
    }

    private static void buildOnOddTicks() {
        Check.sentence("BUILD: if the phase ticks are odd, P becomes the smaller one of P + 20 and the wanted "
                + "pressure; otherwise P stays, but is at most the wanted pressure.");
        AntilockBrakes x = building();
        long pressure = x.wheel(1, P);
        Check.due("phase ticks on entering", 0, () -> x.wheel(1, PHASE_TICKS));
        Check.same("P on entering", 300, pressure);
        for (int i = 1; i <= 8; i++) {
            x.run(1);
            long want = 300 + 20 * ((i + 1) / 2);
            Check.due("BUILD", BUILD, () -> x.wheel(1, PHASE));
            Check.due("P with the phase ticks " + i, want, () -> x.wheel(1, P));
        }
    }

    /** A car whose front right wheel has just come to BUILD, with a P of 300 and a demand of 400. */
    private static AntilockBrakes building() {
        AntilockBrakes x = recovering();
        x.run(1);
        return x;
    }

    private static AntilockBrakes recovering() {
        AntilockBrakes x = rolling(60000);
        x.setDemand(400);
        x.run(12);
        x.setFault(1, true);
        x.run(2);
        x.setFault(1, false);
        x.run(1);
        Check.due("RECOVER", RECOVER, () -> x.wheel(1, PHASE));
        return x;
    }

    private static void buildUpToWanted() {
        Check.sentence("the smaller one of P + 20 and the wanted pressure; otherwise P stays, but is at most the "
                + "wanted pressure");
        int[][] odd = {{301, 301}, {319, 319}, {320, 320}, {321, 320}};
        for (int[] row : odd) {
            AntilockBrakes x = building();
            x.setDemand(row[0]);
            x.run(1);
            Check.due("BUILD", BUILD, () -> x.wheel(1, PHASE));
            Check.due("P on odd ticks with a demand of " + row[0], row[1], () -> x.wheel(1, P));
        }
        int[][] even = {{301, 300}, {300, 300}, {299, 299}, {1, 1}};
        for (int[] row : even) {
            AntilockBrakes x = recovering();
            x.setDemand(row[0]);
            x.run(1);
            Check.due("BUILD", BUILD, () -> x.wheel(1, PHASE));
            Check.due("P on even ticks with a demand of " + row[0], row[1], () -> x.wheel(1, P));
        }
        AntilockBrakes rear = braking(2, 1, 9000, 300, 47);
        Check.due("P of the right rear wheel is at the demand", 300, () -> rear.wheel(3, P));
        rear.run(1);
        Check.due("select-low keeps it in BUILD", BUILD, () -> rear.wheel(3, PHASE));
        Check.due("P stays at the demand", 300, () -> rear.wheel(3, P));
    }

    private static void yawOfNormalWheels() {
        Check.sentence("The yaw allowance is 150 at first. If both front wheels are NORMAL, it becomes 150");
        AntilockBrakes x = new AntilockBrakes();
        Check.due("at first", 150, () -> x.car(YAW));
        for (int faulty = 0; faulty < 2; faulty++) {
            AntilockBrakes one = deep(20000, faulty);
            one.setDemand(100);
            one.run(1);
            Check.due("with wheel " + faulty + " in DUMP", 154, () -> one.car(YAW));
            one.run(3);
            Check.due("after three ticks more", 166, () -> one.car(YAW));
            one.setOn(false);
            one.run(1);
            Check.due("with both NORMAL", 150, () -> one.car(YAW));
        }
        AntilockBrakes rear = deep(20000, 2);
        rear.setDemand(100);
        rear.run(1);
        Check.due("the rear", DUMP, () -> rear.wheel(2, PHASE));
        Check.due("with the rear in DUMP", 150, () -> rear.car(YAW));
    }

    private static void yawLimit() {
        Check.sentence("otherwise the greater one of their pressures becomes the smaller one of itself and (the other "
                + "one) + (the yaw allowance), and then the yaw allowance increases by 4");
        for (int low = 0; low < 2; low++) {
            int dumped = low;
            int other = 1 - low;
            AntilockBrakes x = rolling(60000);
            x.setDemand(400);
            x.run(12);
            x.setFault(dumped, true);
            long[] lower = {350, 300, 250, 200, 150};
            long[] upper = {400, 400, 400, 362, 316};
            for (int i = 0; i < lower.length; i++) {
                x.run(1);
                Check.due("the lower P", lower[i], () -> x.wheel(dumped, P));
                Check.due("the greater P", upper[i], () -> x.wheel(other, P));
                Check.due("the allowance", 154 + 4 * i, () -> x.car(YAW));
            }
        }
        AntilockBrakes equal = allDumped(1);
        Check.due("equal pressures stay", 350, () -> equal.wheel(0, P));
        Check.due("equal pressures stay", 350, () -> equal.wheel(1, P));
        Check.due("the allowance", 154, () -> equal.car(YAW));
    }

    // Below an R of 3000 no wheel is suspected, so that the silent one stays in DUMP.
    private static void yawUpToItsGreatest() {
        Check.sentence("and then the yaw allowance increases by 4, up to 1000");
        AntilockBrakes x = deep(2999, 0);
        x.setDemand(1);
        x.run(212);
        Check.due("after 212 ticks", 998, () -> x.car(YAW));
        x.run(1);
        Check.due("after 213 ticks", 1000, () -> x.car(YAW));
        x.run(1);
        Check.due("after 214 ticks", 1000, () -> x.car(YAW));
        Check.due("the wheel is still dumped", DUMP, () -> x.wheel(0, PHASE));
        x.setOn(false);
        x.run(1);
        Check.due("with both NORMAL", 150, () -> x.car(YAW));
    }

    private static void pump() {
        Check.sentence("If the accumulator is greater than 0, the pump runs: the pump ticks increase by 1, and the "
                + "accumulator decreases by 20, but not below 0.");
        long[][] rows = {{20, 0, 1}, {21, 1, 1}, {1, 0, 1}, {19, 0, 1}};
        for (long[] row : rows) {
            AntilockBrakes x = lightly((int) row[0]);
            Check.due("pump ticks before", 0, () -> x.car(PUMP_TICKS));
            x.run(1);
            Check.due("the accumulator after " + row[0], row[1], () -> x.car(ACCUMULATOR));
            Check.due("pump ticks", row[2], () -> x.car(PUMP_TICKS));
        }
        AntilockBrakes x = lightly(50);
        x.setDemand(50);
        long[] accumulator = {30, 10, 0, 0};
        long[] ticks = {1, 2, 3, 3};
        for (int i = 0; i < ticks.length; i++) {
            x.run(1);
            Check.due("the accumulator after tick " + (i + 1), accumulator[i], () -> x.car(ACCUMULATOR));
            Check.due("pump ticks after tick " + (i + 1), ticks[i], () -> x.car(PUMP_TICKS));
        }
        Check.yes("the car goes on", x.car(V) > 59000);
    }
}
