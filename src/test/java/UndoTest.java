import java.util.ArrayList;
import java.util.List;

/** Promises 21 and 22: undo and the digest. */
public final class UndoTest {
    private UndoTest() {
    }

    public static void main(String[] args) {
        digestOfANewObject();
        digestOfAnUsedObject();
        everyUndoableCallIsUndone();
        questionsAreNotSaved();
        wrongCallsAreNotSaved();
        threeStatesAreKept();
        undoBringsBackWhatNoCallShows();
        Check.end();
    }

    private static long hash(List<Long> values) {
        long h = 19707;
        for (long v : values) {
            h = 31 * h + v;
        }
        return h;
    }

    private static void digestOfANewObject() {
        List<Long> values = new ArrayList<>(List.of(0L));
        values.addAll(List.of(0L, 0L, 0L, 0L, 0L, 0L, 0L, 150L, 0L, 1L));
        for (int i = 0; i < 4 * 14; i++) {
            values.add(0L);
        }
        values.addAll(List.of(1L, 0L, 0L, 0L, 0L, 0L));
        Check.due("digest of a new object", hash(values), new AntilockBrakes()::digest);
    }

    private static void digestOfAnUsedObject() {
        AntilockBrakes x = new AntilockBrakes();
        x.addSegment(0, 2, 1);
        x.addSegment(90000000, 1, 2);
        x.setSpeed(20000);
        x.run(1);
        x.setDemand(1500);
        x.run(40);
        x.plan(30, 4);
        x.plan(20, 6);
        x.setFault(2, true);
        List<Long> values = new ArrayList<>(List.of(3L));
        for (int what = 0; what <= 9; what++) {
            values.add((long) x.car(what));
        }
        for (int wheel = 0; wheel < 4; wheel++) {
            for (int what = 0; what <= 11; what++) {
                values.add((long) x.wheel(wheel, what));
            }
            values.add((long) x.friction(wheel));
            values.add(wheel == 2 ? 1L : 0L);
        }
        values.addAll(List.of(2L, 0L, 2L, 1L, 90000000L, 1L, 2L));
        values.addAll(List.of(2L, 61L, 6L, 71L, 4L));
        values.add((long) x.events());
        for (int i = 0; i < x.events(); i++) {
            for (int what = 0; what <= 2; what++) {
                values.add((long) x.event(i, what));
            }
        }
        Check.due("digest of a used object", hash(values), x::digest);
        Check.due("digest again", hash(values), x::digest);
    }

    private static void everyUndoableCallIsUndone() {
        AntilockBrakes x = new AntilockBrakes();
        x.addSegment(0, 2, 1);
        x.setSpeed(20000);
        x.setFault(0, true);
        x.run(25);
        x.setDemand(1500);
        x.run(30);
        x.undo();
        x.undo();
        // One state is left here, so that its number is the same before a call and after its undo().
        Check.due("states left", 0, x::undo);
        Check.Call[] calls = {() -> x.setSpeed(5), () -> x.addSegment(5000000, 1, 1), () -> x.setDemand(7),
            () -> x.plan(3, 9), () -> Check.number(x.setFault(1, true)), () -> Check.number(x.setOn(false)),
            x::repair, () -> x.run(9), x::stop};
        for (int i = 0; i < calls.length; i++) {
            long before = x.digest();
            calls[i].answer();
            Check.same("call " + i + " changes the digest", 1, Check.number(x.digest() != before));
            Check.due("undo of call " + i, 0, x::undo);
            Check.due("digest after undo of call " + i, before, x::digest);
        }
        Check.due("the stack is empty", Check.STATE, x::undo);
    }

    private static void questionsAreNotSaved() {
        AntilockBrakes x = new AntilockBrakes();
        long before = x.digest();
        x.stopDistance(9000, 12, 700, true);
        x.car(0);
        x.wheel(0, 0);
        x.friction(0);
        x.frictionFor(0, 0);
        x.segments();
        x.segment(0, 0);
        x.planned();
        x.events();
        Check.due("digest after questions", before, x::digest);
        Check.due("nothing to undo", Check.STATE, x::undo);
    }

    private static void wrongCallsAreNotSaved() {
        AntilockBrakes x = new AntilockBrakes();
        Check.of(() -> x.setSpeed(-1));
        Check.of(() -> x.addSegment(0, 0, 9));
        Check.of(() -> x.setDemand(-1));
        Check.of(() -> x.plan(0, 0));
        Check.of(() -> Check.number(x.setFault(4, true)));
        Check.of(() -> x.run(0));
        Check.due("nothing to undo", Check.STATE, x::undo);
        x.setDemand(0);
        Check.due("a call that changes nothing is saved", 0, x::undo);
    }

    private static void threeStatesAreKept() {
        AntilockBrakes x = new AntilockBrakes();
        for (int demand = 1; demand <= 8; demand++) {
            x.setDemand(demand);
        }
        for (int left = 2; left >= 0; left--) {
            Check.due("states left", left, x::undo);
            Check.due("demand", 5 + left, () -> x.car(3));
        }
        Check.due("the fourth undo", Check.STATE, x::undo);
        Check.due("demand", 5, () -> x.car(3));
        x.setDemand(100);
        x.setDemand(101);
        Check.due("states left", 1, x::undo);
        Check.due("demand", 100, () -> x.car(3));
        x.setDemand(102);
        Check.due("states left", 1, x::undo);
        Check.due("states left", 0, x::undo);
        Check.due("demand", 5, () -> x.car(3));
    }

    // The kept values and the last refused dump show in later ticks alone.
    private static void undoBringsBackWhatNoCallShows() {
        AntilockBrakes x = new AntilockBrakes();
        AntilockBrakes y = new AntilockBrakes();
        for (AntilockBrakes each : new AntilockBrakes[] {x, y}) {
            each.addSegment(0, 2, 1);
            each.setSpeed(25000);
            each.setDemand(1800);
        }
        for (int i = 0; i < 50; i++) {
            x.run(3);
            x.run(100);
            x.setSpeed(100);
            x.undo();
            x.undo();
            y.run(3);
            Check.due("a run after undo, A " + i, y.wheel(0, 11), () -> x.wheel(0, 11));
            Check.due("a run after undo, P " + i, y.wheel(1, 1), () -> x.wheel(1, 1));
            Check.due("a run after undo, V " + i, y.car(0), () -> x.car(0));
            Check.due("a run after undo, events " + i, y.events(), x::events);
        }
    }
}
