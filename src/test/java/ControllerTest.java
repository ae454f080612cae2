/** Promises 9 to 11 and the description of a tick: time, the car, the road and the controller. */
public final class ControllerTest {
    private ControllerTest() {
    }

    public static void main(String[] args) {
        runKeepsToItsRange();
        runPassesTicks();
        roadIsRemovedBehindTheCar();
        stop();
        stopDistance();
        stopDistanceIsAnotherCar();
        reference();
        acceleration();
        suspicion();
        active();
        rearFallback();
        dumpRecoverBuild();
        selectLow();
        fullAccumulator();
        yaw();
        pressureFollowsTheDemand();
        lockedTicks();
        farAway();
        Check.end();
    }

    private static void runKeepsToItsRange() {
        AntilockBrakes x = new AntilockBrakes();
        long before = x.digest();
        Check.due("run(0)", Check.ARGUMENT, () -> x.run(0));
        Check.due("run(-1)", Check.ARGUMENT, () -> x.run(-1));
        Check.due("run(1001)", Check.ARGUMENT, () -> x.run(1001));
        Check.due("digest after wrong ticks", before, x::digest);
        Check.due("run(1000)", 0, () -> x.run(1000));
        Check.due("time", 1000, () -> x.car(2));
    }

    private static void runPassesTicks() {
        AntilockBrakes x = new AntilockBrakes();
        x.setSpeed(12399);
        Check.due("a car that rolls keeps its speed", 12399, () -> x.run(10));
        Check.due("and goes a hundredth of it a tick", 1230, () -> x.car(1));
        Check.due("time", 10, () -> x.car(2));
        x.setDemand(100);
        x.run(2);
        // The pressure of 40 slows the wheels in the second tick alone; the friction comes a tick later.
        Check.due("W after two ticks", 12319, () -> x.wheel(1, 0));
        Check.due("P after two ticks", 80, () -> x.wheel(1, 1));
        Check.due("slip of 6", 6, () -> x.wheel(1, 9));
        Check.due("its friction", 40, () -> x.friction(1));
        Check.due("V falls by 160 / 40", 12395, () -> x.run(1));
        Check.due("W falls by twice the rest", 12319 - 80, () -> x.wheel(1, 0));
    }

    private static void roadIsRemovedBehindTheCar() {
        AntilockBrakes x = new AntilockBrakes();
        x.addSegment(100, 1, 1);
        x.addSegment(199, 2, 0);
        x.addSegment(200, 0, 2);
        x.addSegment(201, 1, 2);
        x.setSpeed(10000);
        x.run(1);
        Check.due("segments at 100", 4, x::segments);
        Check.due("present start at 100", 100, () -> x.segment(0, 0));
        x.run(1);
        Check.due("segments at 200", 2, x::segments);
        Check.due("present start at 200", 200, () -> x.segment(0, 0));
        x.run(900);
        Check.due("segments far behind", 1, x::segments);
        Check.due("present start far behind", 201, () -> x.segment(0, 0));
    }

    private static void stop() {
        AntilockBrakes x = new AntilockBrakes();
        Check.due("stop() of a car that stands", 0, x::stop);
        Check.due("stop() is undoable there too", 0, x::undo);
        x.setSpeed(10000);
        Check.due("stop() without a demand", 5000, x::stop);
        Check.due("its time", 5000, () -> x.car(2));
        Check.due("its way", 500000, () -> x.car(1));
        Check.due("its speed", 10000, () -> x.car(0));
        x.plan(3000, 1000);
        int ticks = x.stop();
        Check.same("the plan stops the car", 1, Check.number(ticks > 3000 && ticks < 5000));
        Check.due("V", 0, () -> x.car(0));
        Check.due("time", 5000 + ticks, () -> x.car(2));
    }

    private static void stopDistance() {
        AntilockBrakes x = new AntilockBrakes();
        Check.due("speed -1", Check.ARGUMENT, () -> x.stopDistance(-1, 0, 0, true));
        Check.due("speed 60001", Check.ARGUMENT, () -> x.stopDistance(60001, 0, 0, true));
        Check.due("demand -1", Check.ARGUMENT, () -> x.stopDistance(0, 0, -1, true));
        Check.due("demand 2001", Check.ARGUMENT, () -> x.stopDistance(0, 0, 2001, true));
        for (int surfaces = -25; surfaces <= 125; surfaces++) {
            int asked = surfaces;
            boolean right = surfaces >= 0 && surfaces / 10 <= 2 && surfaces % 10 <= 2;
            Check.due("surfaces " + surfaces, right ? 0 : Check.ARGUMENT, () -> x.stopDistance(0, asked, 0, true));
        }
        Check.due("surfaces MIN", Check.ARGUMENT, () -> x.stopDistance(0, Integer.MIN_VALUE, 0, true));
        Check.due("surfaces MAX", Check.ARGUMENT, () -> x.stopDistance(0, Integer.MAX_VALUE, 0, true));
        Check.due("5000 ticks at most", 3000000, () -> x.stopDistance(60000, 0, 0, true));
        Check.due("the largest arguments", Check.of(() -> stopOfNewCar(60000, 2, 2, 2000, true)),
                () -> x.stopDistance(60000, 22, 2000, true));
    }

    private static long stopOfNewCar(int speed, int left, int right, int demand, boolean on) {
        AntilockBrakes x = new AntilockBrakes();
        x.setSpeed(speed);
        x.addSegment(0, left, right);
        x.setDemand(demand);
        x.setOn(on);
        x.stop();
        return x.car(1);
    }

    private static void stopDistanceIsAnotherCar() {
        AntilockBrakes x = new AntilockBrakes();
        x.setSpeed(30000);
        x.setOn(false);
        x.setFault(0, true);
        x.addSegment(0, 1, 1);
        x.plan(2, 2000);
        x.run(30);
        long before = x.digest();
        for (int surfaces : new int[] {0, 1, 2, 10, 11, 12, 20, 21, 22}) {
            for (int on = 0; on <= 1; on++) {
                boolean switched = on == 1;
                long want = stopOfNewCar(17000, surfaces / 10, surfaces % 10, 1300, switched);
                Check.due("stopDistance on " + surfaces, want,
                        () -> x.stopDistance(17000, surfaces, 1300, switched));
            }
        }
        Check.due("it changes nothing", before, x::digest);
    }

    private static void reference() {
        AntilockBrakes x = new AntilockBrakes();
        x.setSpeed(10000);
        for (int wheel = 0; wheel < 4; wheel++) {
            x.setFault(wheel, true);
        }
        x.run(1);
        Check.due("R falls by 120", 9880, () -> x.car(4));
        x.run(1);
        Check.due("R falls by 120", 9760, () -> x.car(4));
        x.setFault(2, false);
        x.run(1);
        Check.due("R rises by 60", 9820, () -> x.car(4));
        x.run(2);
        Check.due("R rises by 60", 9940, () -> x.car(4));
        x.run(1);
        Check.due("R rises to the greatest M", 10000, () -> x.car(4));
        x.setFault(2, true);
        x.run(25);
        Check.due("all are excluded", 4, x::repair);
        x.undo();
        x.setFault(2, false);
        x.run(1);
        Check.due("an excluded wheel does not count", 10000 - 26 * 120, () -> x.car(4));
        x.run(100);
        Check.due("R ends at 0", 0, () -> x.car(4));
        Check.due("E is 0 then", 0, () -> x.wheel(0, 10));
        x.repair();
        x.setFault(2, true);
        x.setSpeed(121);
        x.run(1);
        Check.due("R of 1", 1, () -> x.car(4));
        Check.due("E is 1000 then", 1000, () -> x.wheel(0, 10));
    }

    private static void acceleration() {
        AntilockBrakes x = new AntilockBrakes();
        x.setSpeed(10000);
        x.run(1);
        x.setFault(0, true);
        long[] want = {-10000, -5000, -3334, -2500, 0, 0};
        for (long value : want) {
            x.run(1);
            Check.due("A of the silent wheel", value, () -> x.wheel(0, 11));
            Check.due("A of another wheel", 0, () -> x.wheel(1, 11));
        }
        x.setFault(0, false);
        x.run(1);
        Check.due("A of the wheel that is heard again", 2500, () -> x.wheel(0, 11));
        x.run(3);
        Check.due("the oldest one of five is still 0", 2500, () -> x.wheel(0, 11));
        x.run(1);
        Check.due("five values of the same kind", 0, () -> x.wheel(0, 11));
    }

    private static void suspicion() {
        AntilockBrakes x = new AntilockBrakes();
        x.setFault(1, true);
        x.setFault(3, true);
        x.setSpeed(2999);
        x.run(30);
        Check.due("too slow for a suspicion", 0, () -> x.wheel(1, 8));
        x.setSpeed(3000);
        x.run(24);
        Check.due("suspicion", 24, () -> x.wheel(1, 8));
        Check.due("not yet excluded", 0, () -> x.wheel(1, 7));
        Check.due("no event yet", 0, x::events);
        x.run(1);
        long[][] events = {{55, AntilockBrakes.EXCLUDED, 1}, {55, AntilockBrakes.EXCLUDED, 3}};
        sameEvents(x, events);
        Check.due("excluded", 1, () -> x.wheel(3, 7));
        x.run(5);
        Check.due("the suspicion stays", 25, () -> x.wheel(1, 8));
        sameEvents(x, events);
        x.repair();
        x.run(7);
        Check.due("suspicion anew", 7, () -> x.wheel(1, 8));
        x.setFault(1, false);
        x.run(1);
        Check.due("the suspicion ends", 0, () -> x.wheel(1, 8));
        Check.due("that of the other one does not", 8, () -> x.wheel(3, 8));
    }

    private static void sameEvents(AntilockBrakes x, long[][] want) {
        Check.due("events", want.length, x::events);
        for (int i = 0; i < want.length; i++) {
            for (int what = 0; what < 3; what++) {
                int index = i;
                int asked = what;
                Check.due("event(" + i + ", " + what + ")", want[i][what], () -> x.event(index, asked));
            }
        }
    }

    private static void active() {
        AntilockBrakes x = new AntilockBrakes();
        x.setDemand(1);
        x.setSpeed(1399);
        Check.due("R of 1399", 0, () -> x.car(8));
        x.setSpeed(1400);
        Check.due("R of 1400", 1, () -> x.car(8));
        x.setDemand(0);
        Check.due("no demand", 0, () -> x.car(8));
        x.setDemand(1);
        x.setSpeed(20000);
        x.setFault(0, true);
        x.run(25);
        Check.due("one wheel excluded", 1, () -> x.car(8));
        x.setFault(1, true);
        x.run(25);
        Check.due("two wheels excluded", 0, () -> x.car(8));
        x.repair();
        Check.due("none excluded", 1, () -> x.car(8));
    }

    private static void rearFallback() {
        AntilockBrakes x = new AntilockBrakes();
        x.setSpeed(20000);
        x.setFault(3, true);
        x.run(25);
        x.setDemand(2000);
        x.run(12);
        Check.due("rear left", 480, () -> x.wheel(2, 1));
        x.run(1);
        Check.due("rear left", 500, () -> x.wheel(2, 1));
        Check.due("rear right", 500, () -> x.wheel(3, 1));
        x.setDemand(300);
        x.run(1);
        Check.due("rear with a smaller demand", 420, () -> x.wheel(2, 1));
        x.run(2);
        Check.due("rear with a smaller demand", 300, () -> x.wheel(2, 1));
        x.run(200);
        Check.due("the wheels of an excluded one's axle stay NORMAL", 0, () -> x.wheel(3, 5));
    }

    /** A car at 60000 whose pressures have all come to 400, without slip enough for any phase. */
    private static AntilockBrakes pressed() {
        AntilockBrakes x = new AntilockBrakes();
        x.setSpeed(60000);
        x.setDemand(400);
        x.run(12);
        for (int i = 0; i < 4; i++) {
            int wheel = i;
            Check.due("P", 400, () -> x.wheel(wheel, 1));
            Check.due("phase", AntilockBrakes.NORMAL, () -> x.wheel(wheel, 2));
        }
        return x;
    }

    private static void dumpRecoverBuild() {
        AntilockBrakes x = pressed();
        x.setFault(1, true);
        x.run(1);
        Check.due("DUMP", AntilockBrakes.DUMP, () -> x.wheel(1, 2));
        Check.due("phase ticks", 0, () -> x.wheel(1, 3));
        Check.due("cycles", 1, () -> x.wheel(1, 4));
        Check.due("valve count", 1, () -> x.wheel(1, 5));
        Check.due("P is dumped", 350, () -> x.wheel(1, 1));
        Check.due("accumulator, a tick's pump later", 30, () -> x.car(5));
        Check.due("pump ticks", 1, () -> x.car(6));
        x.run(1);
        Check.due("phase ticks", 1, () -> x.wheel(1, 3));
        Check.due("P is dumped", 300, () -> x.wheel(1, 1));
        x.setFault(1, false);
        x.run(1);
        Check.due("RECOVER", AntilockBrakes.RECOVER, () -> x.wheel(1, 2));
        Check.due("P is held", 300, () -> x.wheel(1, 1));
        long[] pressures = {300, 320, 320, 340, 340, 360, 360, 380, 380, 400, 400};
        for (int i = 0; i < pressures.length - 1; i++) {
            x.run(1);
            Check.due("BUILD", AntilockBrakes.BUILD, () -> x.wheel(1, 2));
            Check.due("P is built up on odd phase ticks", pressures[i], () -> x.wheel(1, 1));
        }
        x.run(1);
        Check.due("NORMAL", AntilockBrakes.NORMAL, () -> x.wheel(1, 2));
        Check.due("cycles", 1, () -> x.wheel(1, 4));
        Check.due("valve count", 4, () -> x.wheel(1, 5));
        Check.due("the accumulator is empty", 0, () -> x.car(5));
        Check.due("pump ticks", 5, () -> x.car(6));
        sameEvents(x, new long[][] {{13, 0, 12}, {15, 0, 13}, {16, 0, 14}, {26, 0, 10}});
    }

    private static void selectLow() {
        AntilockBrakes x = pressed();
        x.setFault(3, true);
        x.run(1);
        sameEvents(x, new long[][] {{13, 0, 22}, {13, 0, 32}});
        Check.due("P of the wheel that turns", 350, () -> x.wheel(2, 1));
        Check.due("the front is free of it", AntilockBrakes.NORMAL, () -> x.wheel(1, 2));
        x.setDemand(0);
        x.run(1);
        Check.due("not controlled", AntilockBrakes.NORMAL, () -> x.wheel(2, 2));
        Check.due("P falls by 80", 270, () -> x.wheel(2, 1));
    }

    private static void fullAccumulator() {
        AntilockBrakes x = pressed();
        for (int wheel = 0; wheel < 4; wheel++) {
            x.setFault(wheel, true);
        }
        long[] accumulator = {180, 360, 540, 570, 550, 580, 560, 540, 570};
        for (long want : accumulator) {
            x.run(1);
            Check.due("accumulator", want, () -> x.car(5));
        }
        Check.due("P of wheel 0", 400 - 6 * 50, () -> x.wheel(0, 1));
        Check.due("P of wheel 1", 400 - 3 * 50, () -> x.wheel(1, 1));
        sameEvents(x, new long[][] {{13, 0, 2}, {13, 0, 12}, {13, 0, 22}, {13, 0, 32},
            {16, 2, 1}, {18, 2, 1}, {21, 2, 1}});
    }

    private static void yaw() {
        AntilockBrakes x = pressed();
        x.setFault(0, true);
        long[] left = {350, 300, 250, 200, 150, 100};
        long[] right = {400, 400, 400, 362, 316, 270};
        for (int i = 0; i < left.length; i++) {
            x.run(1);
            Check.due("P of the left wheel", left[i], () -> x.wheel(0, 1));
            Check.due("P of the right wheel", right[i], () -> x.wheel(1, 1));
            Check.due("yaw allowance", 154 + 4 * i, () -> x.car(7));
        }
        x.setOn(false);
        x.run(1);
        Check.due("yaw allowance with both NORMAL", 150, () -> x.car(7));
        Check.due("P of the right wheel", 310, () -> x.wheel(1, 1));
    }

    private static void pressureFollowsTheDemand() {
        AntilockBrakes x = new AntilockBrakes();
        x.setDemand(100);
        long[] up = {40, 80, 100, 100};
        for (long want : up) {
            x.run(1);
            Check.due("P rises by 40", want, () -> x.wheel(0, 1));
        }
        x.setDemand(15);
        long[] down = {20, 15, 15};
        for (long want : down) {
            x.run(1);
            Check.due("P falls by 80", want, () -> x.wheel(3, 1));
        }
    }

    private static void lockedTicks() {
        AntilockBrakes x = new AntilockBrakes();
        x.addSegment(0, 2, 2);
        x.setSpeed(3000);
        x.setOn(false);
        x.setDemand(2000);
        long locked = 0;
        for (int i = 0; i < 160; i++) {
            int speed = x.run(1);
            locked += x.wheel(2, 0) == 0 && speed > 1400 ? 1 : 0;
            Check.due("locked ticks", locked, () -> x.wheel(2, 6));
        }
        Check.same("some ticks were locked", 1, Check.number(locked > 100));
        x.stop();
        Check.due("the car has stopped", 0, () -> x.car(0));
    }

    // The longest way that 512 calls can go: it must still be a position.
    private static void farAway() {
        AntilockBrakes x = new AntilockBrakes();
        x.setSpeed(60000);
        for (int i = 0; i < 508; i++) {
            x.stop();
        }
        Check.due("X", 508L * 5000 * 600, () -> x.car(1));
        Check.due("no start is left for a segment", Check.ARGUMENT, () -> x.addSegment(100000000, 0, 0));
        Check.due("the first segment is still the present one", 0, () -> x.segment(0, 0));
    }
}
