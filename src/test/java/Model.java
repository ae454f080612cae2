import java.util.ArrayDeque;
import java.util.ArrayList;
import java.util.Arrays;
import java.util.Deque;
import java.util.HashMap;
import java.util.List;
import java.util.Map;
import java.util.TreeMap;

/**
 * The document once more, written along its sentences and apart from the class: named values in maps, library
 * lists, and whole copies for undo. ModelTest compares the two.
 */
final class Model {
    private static final long[] F = {1000, 600, 150};
    private static final long[] Q = {750, 700, 600};
    private static final int NORMAL = 0, HOLD = 1, DUMP = 2, RECOVER = 3, BUILD = 4;
    private static final List<Integer> LOW_FIRST = List.of(DUMP, HOLD, RECOVER, BUILD, NORMAL);

    /** What undo() brings back. */
    private static final class State {
        Map<String, Long> car = new HashMap<>();
        List<Map<String, Long>> wheels = new ArrayList<>();
        List<List<Long>> measured = new ArrayList<>();
        TreeMap<Long, long[]> road = new TreeMap<>();
        List<long[]> plan = new ArrayList<>();
        List<long[]> events = new ArrayList<>();

        State copy() {
            State made = new State();
            made.car.putAll(car);
            for (int i = 0; i < 4; i++) {
                made.wheels.add(new HashMap<>(wheels.get(i)));
                made.measured.add(new ArrayList<>(measured.get(i)));
            }
            made.road.putAll(road);
            made.plan.addAll(plan);
            made.events.addAll(events);
            return made;
        }
    }

    /** What the runs have passed through, so that a test can see that they passed through everything. */
    final Map<String, Integer> seen = new TreeMap<>();
    private State s = new State();
    private final Deque<State> undoStack = new ArrayDeque<>();

    Model() {
        for (String name : List.of("V", "X", "time", "demand", "R", "accumulator", "pumpTicks", "refused")) {
            s.car.put(name, 0L);
        }
        s.car.put("yaw", 150L);
        s.car.put("on", 1L);
        for (int i = 0; i < 4; i++) {
            Map<String, Long> w = new HashMap<>();
            for (String name : List.of("W", "P", "phase", "phaseTicks", "cycles", "valves", "locked", "excluded",
                    "suspicion", "faulty")) {
                w.put(name, 0L);
            }
            s.wheels.add(w);
            s.measured.add(new ArrayList<>());
        }
        s.road.put(0L, new long[] {0, 0});
    }

    private long c(String name) {
        return s.car.get(name);
    }

    private void c(String name, long value) {
        s.car.put(name, value);
    }

    private long w(int wheel, String name) {
        return s.wheels.get(wheel).get(name);
    }

    private void w(int wheel, String name, long value) {
        s.wheels.get(wheel).put(name, value);
    }

    private void see(String what) {
        seen.merge(what, 1, Integer::sum);
    }

    private void save() {
        undoStack.addLast(s.copy());
        if (undoStack.size() > 3) {
            undoStack.removeFirst();
        }
    }

    private static void range(long value, long low, long high) {
        if (value < low || value > high) {
            throw new IllegalArgumentException();
        }
    }

    private static void index(long value, long count) {
        if (value < 0 || value >= count) {
            throw new IndexOutOfBoundsException();
        }
    }

    long setSpeed(int speed) {
        range(speed, 0, 60000);
        save();
        long before = c("V");
        start(speed);
        return before;
    }

    private void start(long speed) {
        c("V", speed);
        c("R", speed);
        c("accumulator", 0);
        c("yaw", 150);
        c("refused", 0);
        for (int i = 0; i < 4; i++) {
            w(i, "W", speed);
            for (String name : List.of("P", "phase", "phaseTicks", "suspicion")) {
                w(i, name, 0);
            }
            s.measured.get(i).clear();
        }
    }

    long addSegment(int start, int left, int right) {
        range(start, c("X"), 100000000);
        range(left, 0, 2);
        range(right, 0, 2);
        if (!s.road.containsKey((long) start) && s.road.size() == 12) {
            throw new IllegalStateException();
        }
        save();
        s.road.put((long) start, new long[] {left, right});
        return s.road.size();
    }

    long setDemand(int demand) {
        range(demand, 0, 2000);
        save();
        return s.car.put("demand", (long) demand);
    }

    long plan(int delay, int demand) {
        range(delay, 1, 5000);
        range(demand, 0, 2000);
        if (s.plan.size() == 10) {
            throw new IllegalStateException();
        }
        save();
        s.plan.add(new long[] {c("time") + delay, demand});
        s.plan.sort((a, b) -> Long.compare(a[0], b[0]));
        return s.plan.size();
    }

    long setFault(int wheel, boolean faulty) {
        index(wheel, 4);
        save();
        return s.wheels.get(wheel).put("faulty", faulty ? 1L : 0L);
    }

    long setOn(boolean on) {
        save();
        return s.car.put("on", on ? 1L : 0L);
    }

    long repair() {
        save();
        long count = excluded(0, 4);
        for (int i = 0; i < 4; i++) {
            w(i, "excluded", 0);
            w(i, "suspicion", 0);
        }
        return count;
    }

    long run(int ticks) {
        range(ticks, 1, 1000);
        save();
        for (int i = 0; i < ticks; i++) {
            tick();
        }
        return c("V");
    }

    long stop() {
        save();
        return untilStill();
    }

    private long untilStill() {
        for (int i = 0; i < 5000; i++) {
            if (c("V") == 0) {
                return i;
            }
            tick();
        }
        return 5000;
    }

    long stopDistance(int speed, int surfaces, int demand, boolean on) {
        range(speed, 0, 60000);
        if (!List.of(0, 1, 2, 10, 11, 12, 20, 21, 22).contains(surfaces)) {
            throw new IllegalArgumentException();
        }
        range(demand, 0, 2000);
        Model other = new Model();
        other.start(speed);
        other.s.road.put(0L, new long[] {surfaces / 10, surfaces % 10});
        other.c("demand", demand);
        other.c("on", on ? 1 : 0);
        other.untilStill();
        return other.c("X");
    }

    long car(int what) {
        range(what, 0, 9);
        if (what == 8) {
            return active() ? 1 : 0;
        }
        return c(List.of("V", "X", "time", "demand", "R", "accumulator", "pumpTicks", "yaw", "", "on").get(what));
    }

    long wheel(int wheel, int what) {
        index(wheel, 4);
        range(what, 0, 11);
        if (what < 9) {
            return w(wheel, List.of("W", "P", "phase", "phaseTicks", "cycles", "valves", "locked", "excluded",
                    "suspicion").get(what));
        }
        if (what == 9) {
            return slip(wheel);
        }
        if (s.measured.get(wheel).isEmpty()) {
            return 0;
        }
        return what == 10 ? estimate(wheel) : acceleration(wheel);
    }

    long friction(int wheel) {
        index(wheel, 4);
        long[] sides = s.road.floorEntry(c("X")).getValue();
        return frictionFor((int) sides[wheel % 2], (int) slip(wheel));
    }

    long frictionFor(int surface, int slip) {
        range(surface, 0, 2);
        range(slip, 0, 1000);
        if (slip <= 150) {
            return Math.floorDiv(F[surface] * slip, 150L);
        }
        return F[surface] - Math.floorDiv(F[surface] * (1000 - Q[surface]) * (slip - 150), 850000L);
    }

    long segments() {
        return s.road.size();
    }

    long segment(int index, int what) {
        index(index, s.road.size());
        range(what, 0, 2);
        Long start = new ArrayList<>(s.road.keySet()).get(index);
        return what == 0 ? start : s.road.get(start)[what - 1];
    }

    long planned() {
        return s.plan.size();
    }

    long events() {
        return s.events.size();
    }

    long event(int index, int what) {
        index(index, s.events.size());
        range(what, 0, 2);
        return s.events.get(index)[what];
    }

    long undo() {
        if (undoStack.isEmpty()) {
            throw new IllegalStateException();
        }
        s = undoStack.removeLast();
        return undoStack.size();
    }

    long digest() {
        List<Long> values = new ArrayList<>();
        values.add((long) undoStack.size());
        for (int what = 0; what <= 9; what++) {
            values.add(car(what));
        }
        for (int i = 0; i < 4; i++) {
            for (int what = 0; what <= 11; what++) {
                values.add(wheel(i, what));
            }
            values.add(friction(i));
            values.add(w(i, "faulty"));
        }
        values.add(segments());
        s.road.forEach((start, sides) -> values.addAll(List.of(start, sides[0], sides[1])));
        values.add(planned());
        s.plan.forEach(entry -> values.addAll(List.of(entry[0], entry[1])));
        values.add(events());
        s.events.forEach(event -> values.addAll(List.of(event[0], event[1], event[2])));
        long h = 19707;
        for (long v : values) {
            h = 31 * h + v;
        }
        return h;
    }

    private long slip(int wheel) {
        return c("V") == 0 ? 0 : Math.floorDiv(1000 * (c("V") - w(wheel, "W")), c("V"));
    }

    private long excluded(int from, int to) {
        long count = 0;
        for (int i = from; i < to; i++) {
            count += w(i, "excluded");
        }
        return count;
    }

    private boolean active() {
        return c("on") == 1 && c("demand") > 0 && c("R") >= 1400 && excluded(0, 4) < 2;
    }

    private long newest(int wheel) {
        List<Long> values = s.measured.get(wheel);
        return values.get(values.size() - 1);
    }

    private long acceleration(int wheel) {
        List<Long> values = s.measured.get(wheel);
        return values.size() == 1 ? 0 : Math.floorDiv(newest(wheel) - values.get(0), (long) values.size() - 1);
    }

    private long estimate(int wheel) {
        long r = c("R");
        return r == 0 || newest(wheel) >= r ? 0 : Math.floorDiv(1000 * (r - newest(wheel)), r);
    }

    private void log(int kind, long value) {
        see("event " + kind);
        s.events.add(new long[] {c("time"), kind, value});
        if (s.events.size() > 40) {
            see("dropped event");
            s.events.remove(0);
        }
    }

    private void tick() {
        c("time", c("time") + 1);
        while (!s.plan.isEmpty() && s.plan.get(0)[0] == c("time")) {
            c("demand", s.plan.remove(0)[1]);
        }
        long[] frictions = {friction(0), friction(1), friction(2), friction(3)};
        c("X", c("X") + Math.floorDiv(c("V"), 100L));
        c("V", Math.max(0, c("V") - Math.floorDiv(Arrays.stream(frictions).sum(), 40L)));
        for (int i = 0; i < 4; i++) {
            long would = w(i, "W") + 2 * (frictions[i] - w(i, "P"));
            w(i, "W", would < 0 ? 0 : would > c("V") ? c("V") : would);
        }
        Long present = s.road.floorKey(c("X"));
        if (s.road.firstKey() < present) {
            see("removed segment");
        }
        s.road.headMap(present).clear();
        control();
        for (int i = 0; i < 4; i++) {
            if (w(i, "W") == 0 && c("V") > 1400) {
                see("locked");
                w(i, "locked", w(i, "locked") + 1);
            }
        }
    }

    private void control() {
        long g = 0;
        for (int i = 0; i < 4; i++) {
            long m = w(i, "faulty") == 1 ? 0 : w(i, "W");
            s.measured.get(i).add(m);
            if (s.measured.get(i).size() > 5) {
                s.measured.get(i).remove(0);
            }
            if (w(i, "excluded") == 0) {
                g = Math.max(g, m);
            }
        }
        long r = c("R");
        c("R", g >= r ? Math.min(g, r + 60) : Math.max(g, r - 120));
        for (int i = 0; i < 4; i++) {
            if (w(i, "excluded") == 1) {
                continue;
            }
            w(i, "suspicion", newest(i) == 0 && c("R") >= 3000 ? w(i, "suspicion") + 1 : 0);
            if (w(i, "suspicion") == 25) {
                w(i, "excluded", 1);
                log(1, i);
            }
        }
        phases();
        pressures();
        yaw();
        if (c("accumulator") > 0) {
            c("pumpTicks", c("pumpTicks") + 1);
            c("accumulator", Math.max(0, c("accumulator") - 20));
        }
    }

    private void phases() {
        int[] next = new int[4];
        boolean rear = active() && excluded(2, 4) == 0;
        boolean front = active() && excluded(0, 2) == 0;
        for (int i = 0; i < 4; i++) {
            next[i] = (i < 2 ? front : rear) ? next(i) : NORMAL;
            see((w(i, "phase")) + " to " + next[i]);
        }
        if (rear) {
            if (next[2] != next[3]) {
                see("select-low");
            }
            int first = Math.min(LOW_FIRST.indexOf(next[2]), LOW_FIRST.indexOf(next[3]));
            next[2] = LOW_FIRST.get(first);
            next[3] = next[2];
        }
        for (int i = 0; i < 4; i++) {
            if (next[i] == w(i, "phase")) {
                w(i, "phaseTicks", w(i, "phaseTicks") + 1);
                continue;
            }
            w(i, "phase", next[i]);
            w(i, "phaseTicks", 0);
            w(i, "valves", w(i, "valves") + 1);
            log(0, 10 * i + next[i]);
            if (next[i] == DUMP) {
                w(i, "cycles", w(i, "cycles") + 1);
            }
        }
    }

    private int next(int i) {
        long e = estimate(i);
        long a = acceleration(i);
        boolean deep = e > 200 && a < -30;
        int from = (int) w(i, "phase");
        if (from == NORMAL) {
            if (deep) return DUMP;
            if (e > 100 && a < -60) return HOLD;
            return NORMAL;
        }
        if (from == HOLD) {
            if (deep) return DUMP;
            if (a >= 0 || e <= 60) return BUILD;
            return HOLD;
        }
        if (from == DUMP) {
            if (a > 10 || e <= 60) return RECOVER;
            return DUMP;
        }
        if (from == RECOVER) {
            if (e <= 60 || (a <= 10 && e <= 150)) return BUILD;
            if (deep) return DUMP;
            return RECOVER;
        }
        if (deep) return DUMP;
        if (w(i, "P") >= c("demand")) return NORMAL;
        return BUILD;
    }

    private void pressures() {
        for (int i = 0; i < 4; i++) {
            long wanted = c("demand");
            if (i >= 2 && excluded(2, 4) > 0) {
                see("rear fallback");
                wanted = Math.min(wanted, 500);
            }
            long p = w(i, "P");
            switch ((int) w(i, "phase")) {
                case NORMAL -> w(i, "P", p < wanted ? Math.min(p + 40, wanted) : Math.max(p - 80, wanted));
                case HOLD, RECOVER -> w(i, "P", Math.min(p, wanted));
                case BUILD -> w(i, "P", Math.min(w(i, "phaseTicks") % 2 == 1 ? p + 20 : p, wanted));
                default -> dump(i);
            }
        }
    }

    private void dump(int i) {
        if (c("accumulator") > 550) {
            if (c("refused") == 0) {
                log(2, i);
            }
            see("refused dump");
            c("refused", 1);
            return;
        }
        long p = w(i, "P");
        long after = Math.max(0, p - 50);
        w(i, "P", after);
        c("accumulator", c("accumulator") + p - after);
        c("refused", 0);
    }

    private void yaw() {
        if (w(0, "phase") == NORMAL && w(1, "phase") == NORMAL) {
            c("yaw", 150);
            return;
        }
        int greater = w(0, "P") >= w(1, "P") ? 0 : 1;
        long most = w(1 - greater, "P") + c("yaw");
        if (w(greater, "P") > most) {
            see("yaw limit");
        }
        w(greater, "P", Math.min(w(greater, "P"), most));
        c("yaw", Math.min(1000, c("yaw") + 4));
        if (c("yaw") == 1000) {
            see("greatest yaw");
        }
    }
}
