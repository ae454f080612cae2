import java.util.ArrayList;
import java.util.List;

/**
 * The boundary cases of the phases: each comparison with E, A or P, at the last value that fulfils it and at the first
 * one that does not, and select-low. Every row is a stop on a road with two surfaces; it is looked at before and after
 * the last of its ticks, and tells E and A there, so that the boundary can be seen to be met.
 */
public final class BoundaryPhaseTest {
    private static final int NORMAL = AntilockBrakes.NORMAL, HOLD = AntilockBrakes.HOLD, DUMP = AntilockBrakes.DUMP,
            RECOVER = AntilockBrakes.RECOVER, BUILD = AntilockBrakes.BUILD;
    private static final int P = 1, PHASE = 2, PHASE_TICKS = 3, CYCLES = 4, VALVE_COUNT = 5, E = 10, A = 11;

    private BoundaryPhaseTest() {
    }

    public static void main(String[] args) {
        fromNormal();
        fromHold();
        fromDump();
        fromRecover();
        fromBuild();
        fromBuildByPressure();
        notControlled();
        selectLow();
        selectLowOfTwoPressures();
        phaseTicksAndCounts();
        Check.end();
    }

    /** A stop with the controller on, after a number of ticks. */
    private static AntilockBrakes braking(int left, int right, int speed, int demand, int ticks) {
        AntilockBrakes x = new AntilockBrakes();
        x.addSegment(0, left, right);
        x.setSpeed(speed);
        x.setDemand(demand);
        if (ticks > 0) {
            x.run(ticks);
        }
        return x;
    }

    /** A row: left and right surface, speed, demand, ticks; the wheel, its phase, E and A of the last tick. */
    private static void next(int to, int... row) {
        AntilockBrakes x = braking(row[0], row[1], row[2], row[3], row[4] - 1);
        int wheel = row[5];
        String name = "E " + row[7] + ", A " + row[8];
        Check.due(name + ": the phase before", row[6], () -> x.wheel(wheel, PHASE));
        x.run(1);
        Check.due(name + ": E", row[7], () -> x.wheel(wheel, E));
        Check.due(name + ": A", row[8], () -> x.wheel(wheel, A));
        Check.due(name + ": the next phase", to, () -> x.wheel(wheel, PHASE));
    }

    private static void fromNormal() {
        Check.sentence("from NORMAL: DUMP if deep; else HOLD if E is greater than 100 and A less than -60; else "
                + "NORMAL.");
        next(DUMP, 1, 1, 3000, 340, 26, 0, NORMAL, 201, -33);
        next(NORMAL, 1, 1, 3000, 340, 18, 0, NORMAL, 200, -45);
        next(DUMP, 2, 1, 3000, 310, 34, 1, NORMAL, 222, -31);
        next(NORMAL, 1, 2, 3000, 300, 34, 0, NORMAL, 220, -30);
        next(HOLD, 0, 0, 2000, 150, 6, 0, NORMAL, 101, -82);
        next(NORMAL, 1, 2, 5000, 160, 7, 1, NORMAL, 100, -130);
        next(HOLD, 2, 1, 13000, 160, 16, 0, NORMAL, 103, -61);
        next(NORMAL, 0, 0, 4000, 300, 14, 0, NORMAL, 138, -60);
    }

    private static void fromHold() {
        Check.sentence("from HOLD (1): DUMP if deep; else BUILD if A is at least 0 or E is at most 60; else HOLD.");
        next(DUMP, 1, 2, 7000, 240, 11, 1, HOLD, 201, -185);
        next(HOLD, 2, 1, 11000, 1600, 12, 0, HOLD, 200, -349);
        next(DUMP, 2, 1, 6000, 160, 53, 0, HOLD, 208, -31);
        next(HOLD, 2, 1, 6000, 160, 52, 0, HOLD, 204, -30);
        next(BUILD, 2, 1, 46000, 1000, 25, 1, HOLD, 93, 0);
        next(HOLD, 1, 0, 5000, 1600, 51, 0, HOLD, 64, -1);
        next(BUILD, 2, 0, 2000, 130, 8, 0, HOLD, 60, -28);
        next(HOLD, 2, 1, 3000, 150, 12, 0, HOLD, 61, -15);
    }

    private static void fromDump() {
        Check.sentence("from DUMP (2): RECOVER if A is greater than 10 or E is at most 60; else DUMP.");
        next(RECOVER, 0, 2, 15000, 2000, 19, 1, DUMP, 261, 11);
        next(DUMP, 2, 0, 18000, 1300, 21, 0, DUMP, 268, 10);
        next(RECOVER, 2, 0, 6000, 700, 87, 1, DUMP, 60, -59);
        next(DUMP, 0, 0, 10000, 700, 93, 0, DUMP, 61, -130);
    }

    private static void fromRecover() {
        Check.sentence("from RECOVER (3): BUILD if E is at most 60, or A is at most 10 and E at most 150; else DUMP if "
                + "deep; else RECOVER.");
        next(BUILD, 0, 2, 6000, 300, 18, 1, RECOVER, 60, 174);
        next(RECOVER, 2, 1, 5000, 400, 18, 0, RECOVER, 61, 182);
        next(BUILD, 0, 1, 13000, 800, 48, 1, RECOVER, 89, 10);
        next(RECOVER, 0, 2, 16000, 400, 50, 1, RECOVER, 62, 11);
        next(BUILD, 1, 1, 2000, 800, 14, 0, RECOVER, 150, -14);
        next(RECOVER, 0, 1, 6000, 600, 36, 0, RECOVER, 151, -86);
        next(DUMP, 1, 0, 6000, 590, 42, 1, RECOVER, 201, -34);
        next(RECOVER, 1, 0, 9000, 600, 99, 1, RECOVER, 200, -105);
        next(DUMP, 0, 1, 7000, 1300, 66, 0, RECOVER, 203, -31);
        next(RECOVER, 1, 2, 4000, 1600, 86, 0, RECOVER, 216, -30);
    }

    private static void fromBuild() {
        Check.sentence("from BUILD (4): DUMP if deep; else NORMAL if P is at least the demand; else BUILD.");
        next(DUMP, 2, 0, 3000, 1300, 16, 1, BUILD, 201, -49);
        next(BUILD, 2, 0, 3000, 1300, 30, 1, BUILD, 200, -41);
        next(DUMP, 2, 2, 3000, 240, 25, 1, BUILD, 234, -31);
        next(BUILD, 2, 1, 3000, 600, 67, 1, BUILD, 222, -30);
    }

    private static void fromBuildByPressure() {
        Check.sentence("from BUILD (4): .. else NORMAL if P is at least the demand; else BUILD.");
        int[] demands = {301, 300, 299, 1};
        int[] phases = {BUILD, NORMAL, NORMAL, NORMAL};
        for (int i = 0; i < demands.length; i++) {
            AntilockBrakes x = braking(2, 0, 3000, 1300, 29);
            Check.due("the phase before", BUILD, () -> x.wheel(1, PHASE));
            Check.due("P before", 300, () -> x.wheel(1, P));
            x.setDemand(demands[i]);
            x.run(1);
            Check.due("the phase with a demand of " + demands[i], phases[i], () -> x.wheel(1, PHASE));
        }
        AntilockBrakes deep = braking(1, 2, 3000, 400, 24);
        Check.due("P is at the demand", 400, () -> deep.wheel(0, P));
        next(DUMP, 1, 2, 3000, 400, 25, 0, BUILD, 213, -172);
    }

    private static void notControlled() {
        Check.sentence("The next phase of a wheel that is not controlled is NORMAL");
        int[][] rows = {{2, 1, 11000, 1600, 11, 0, HOLD}, {2, 0, 18000, 1300, 20, 0, DUMP},
            {2, 1, 5000, 400, 17, 0, RECOVER}, {2, 0, 3000, 1300, 29, 1, BUILD}};
        for (int[] row : rows) {
            AntilockBrakes x = braking(row[0], row[1], row[2], row[3], row[4]);
            int wheel = row[5];
            Check.due("the phase before", row[6], () -> x.wheel(wheel, PHASE));
            x.setOn(false);
            x.run(1);
            Check.due("the phase after " + row[6], NORMAL, () -> x.wheel(wheel, PHASE));
        }
    }

    /** A row: surfaces, speed, demand, ticks; the phase of both, E and A of the left one, E and A of the right one. */
    private static void rear(int to, int... row) {
        AntilockBrakes x = braking(row[0], row[1], row[2], row[3], row[4] - 1);
        String name = "from " + row[5] + ", E " + row[6] + " and " + row[8] + ", A " + row[7] + " and " + row[9];
        for (int i = 2; i < 4; i++) {
            int wheel = i;
            Check.due(name + ": the phase before", row[5], () -> x.wheel(wheel, PHASE));
        }
        x.run(1);
        for (int i = 2; i < 4; i++) {
            int wheel = i;
            Check.due(name + ": E of wheel " + i, row[2 + 2 * i], () -> x.wheel(wheel, E));
            Check.due(name + ": A of wheel " + i, row[3 + 2 * i], () -> x.wheel(wheel, A));
            Check.due(name + ": the next phase of wheel " + i, to, () -> x.wheel(wheel, PHASE));
        }
    }

    // The rear wheels always have the same phase before, so HOLD never meets RECOVER, nor RECOVER NORMAL.
    private static void selectLow() {
        Check.sentence("If both rear wheels are controlled, both get the one of their two next phases that comes first "
                + "in the order DUMP, HOLD, RECOVER, BUILD, NORMAL.");
        rear(HOLD, 0, 2, 4000, 400, 5, NORMAL, 0, -8, 106, -125);       // NORMAL and HOLD
        rear(HOLD, 2, 0, 2000, 2000, 5, NORMAL, 133, -84, 0, -16);      // HOLD and NORMAL
        rear(DUMP, 1, 2, 2000, 2000, 21, NORMAL, 0, -22, 320, -108);    // NORMAL and DUMP
        rear(DUMP, 2, 1, 2000, 800, 21, NORMAL, 320, -108, 0, -22);     // DUMP and NORMAL
        rear(DUMP, 0, 1, 5000, 380, 48, NORMAL, 204, -43, 200, -63);    // DUMP and HOLD
        rear(DUMP, 2, 2, 17000, 300, 239, NORMAL, 178, -294, 223, -308); // HOLD and DUMP
        rear(HOLD, 0, 2, 4000, 400, 6, HOLD, 40, -68, 101, -126);       // BUILD and HOLD
        rear(HOLD, 2, 1, 3000, 600, 6, HOLD, 96, -100, 48, -67);        // HOLD and BUILD
        rear(DUMP, 1, 2, 7000, 1100, 10, HOLD, 0, -50, 203, -261);      // BUILD and DUMP
        rear(DUMP, 2, 0, 6000, 700, 10, HOLD, 211, -195, 11, -41);      // DUMP and BUILD
        rear(DUMP, 1, 2, 7000, 1100, 11, DUMP, 0, -9, 237, -242);       // RECOVER and DUMP
        rear(DUMP, 2, 0, 6000, 700, 11, DUMP, 236, -161, 0, 17);        // DUMP and RECOVER
        rear(RECOVER, 1, 2, 4000, 600, 15, RECOVER, 0, 11, 140, 112);   // BUILD and RECOVER
        rear(RECOVER, 2, 0, 5000, 450, 15, RECOVER, 115, 118, 0, -20);  // RECOVER and BUILD
        rear(DUMP, 0, 1, 7000, 1300, 59, RECOVER, 210, -155, 136, 27);  // DUMP and RECOVER
        rear(DUMP, 1, 0, 4000, 1900, 22, BUILD, 155, -41, 211, -63);    // BUILD and DUMP
        rear(DUMP, 0, 2, 7000, 240, 41, BUILD, 24, -38, 210, -146);     // NORMAL and DUMP
    }

    private static void selectLowOfTwoPressures() {
        Check.sentence("in the order DUMP, HOLD, RECOVER, BUILD, NORMAL");
        AntilockBrakes x = braking(2, 1, 9000, 300, 47);
        Check.due("P of wheel 2 is below the demand", 250, () -> x.wheel(2, P));
        Check.due("P of wheel 3 is at the demand", 300, () -> x.wheel(3, P));
        rear(BUILD, 2, 1, 9000, 300, 48, BUILD, 180, -165, 0, -40);
    }

    private static void phaseTicksAndCounts() {
        Check.sentence("A wheel whose phase changes gets the phase ticks 0, its valve count increases by 1, and an "
                + "event PHASE with 10 * wheel + (new phase) is logged; if the new phase is DUMP, its cycles increase "
                + "by 1. Otherwise its phase ticks increase by 1.");
        AntilockBrakes x = braking(1, 2, 7000, 240, 0);
        List<Long> logged = new ArrayList<>();
        long phase = NORMAL;
        long ticks = 0;
        long valves = 0;
        long cycles = 0;
        for (int i = 1; i <= 60; i++) {
            x.run(1);
            long now = x.wheel(3, PHASE);
            if (now != phase) {
                logged.add(100L * i + 30 + now);
            }
            ticks = now == phase ? ticks + 1 : 0;
            valves += now == phase ? 0 : 1;
            cycles += now != phase && now == DUMP ? 1 : 0;
            phase = now;
            Check.due("phase ticks in tick " + i, ticks, () -> x.wheel(3, PHASE_TICKS));
            Check.due("valve count in tick " + i, valves, () -> x.wheel(3, VALVE_COUNT));
            Check.due("cycles in tick " + i, cycles, () -> x.wheel(3, CYCLES));
        }
        Check.yes("there were two cycles or more", cycles >= 2 && valves > cycles);
        Check.yes("the events " + logged, eventsOfTheLastWheel(x).equals(logged));
    }

    /** 100 * time + value of each PHASE event of wheel 3. */
    private static List<Long> eventsOfTheLastWheel(AntilockBrakes x) {
        List<Long> found = new ArrayList<>();
        int count = x.events();
        for (int i = 0; i < count; i++) {
            int value = x.event(i, 2);
            if (value >= 30 && x.event(i, 1) == AntilockBrakes.PHASE) {
                found.add(100L * x.event(i, 0) + value);
            }
        }
        return found;
    }
}
