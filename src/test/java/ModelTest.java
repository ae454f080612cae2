import java.util.List;
import java.util.Random;
import java.util.TreeMap;

/** Long runs of calls, right and wrong ones, on the class and on the model of the document, compared call by call. */
public final class ModelTest {
    private static final int RUNS = 400;
    private static final int CALLS = 512;
    private static final int MOST_OF_A_STEP = 6;
    private static final TreeMap<String, Integer> SEEN = new TreeMap<>();

    private final Random random;
    private final AntilockBrakes real = new AntilockBrakes();
    private final Model model = new Model();
    private final String name;
    // How readily the run lets time pass, and how often its arguments are wrong.
    private final int longest;
    private final int wrongEvery;
    private int longStops = 3;
    // The calls that the object has had: what it answers after 512 of them is free.
    private int calls = 0;

    private ModelTest(int seed) {
        random = new Random(seed);
        name = "run " + seed;
        longest = List.of(3, 20, 60, 200).get(seed % 4);
        wrongEvery = seed % 3 == 0 ? 8 : 60;
    }

    public static void main(String[] args) {
        for (int seed = 0; seed < RUNS; seed++) {
            ModelTest test = new ModelTest(seed);
            test.start();
            while (test.calls < CALLS - MOST_OF_A_STEP) {
                test.step();
            }
            test.model.seen.forEach((what, count) -> SEEN.merge(what, count, Integer::sum));
        }
        everythingWasSeen();
        Check.end();
    }

    // Runs that never dump, exclude or fill up would prove little.
    private static void everythingWasSeen() {
        for (String what : List.of("event 0", "event 1", "event 2", "dropped event", "removed segment", "locked",
                "select-low", "rear fallback", "refused dump", "yaw limit", "greatest yaw", "0 to 0", "0 to 1",
                "0 to 2", "1 to 0", "1 to 1", "1 to 2", "1 to 4", "2 to 0", "2 to 2", "2 to 3", "3 to 0", "3 to 2",
                "3 to 3", "3 to 4", "4 to 0", "4 to 2", "4 to 4")) {
            Check.same("seen in the runs: " + what, 1, SEEN.containsKey(what) ? 1 : 0);
        }
    }

    private int number(int low, int high) {
        return low + random.nextInt(high - low + 1);
    }

    /** A number of the range, now and then one of its ends, and now and then one outside. */
    private int argument(int low, int high) {
        if (random.nextInt(wrongEvery) == 0) {
            return List.of(low - 1, high + 1, Integer.MIN_VALUE, Integer.MAX_VALUE).get(random.nextInt(4));
        }
        int kind = random.nextInt(12);
        return kind == 0 ? low : kind == 1 ? high : number(low, high);
    }

    private void compare(String call, Check.Call onModel, Check.Call onReal) {
        calls += 2;
        Check.due(name + ": " + call, Check.of(onModel), onReal);
        Check.same(name + ": digest after " + call, model.digest(), real.digest());
    }

    private void start() {
        int speed = number(3000, 45000);
        int left = number(0, 2);
        int right = number(0, 2);
        compare("setSpeed", () -> model.setSpeed(speed), () -> real.setSpeed(speed));
        compare("addSegment", () -> model.addSegment(0, left, right), () -> real.addSegment(0, left, right));
        if (random.nextInt(3) > 0) {
            int demand = number(100, 2000);
            compare("setDemand", () -> model.setDemand(demand), () -> real.setDemand(demand));
        }
    }

    private void step() {
        int kind = random.nextInt(100);
        if (kind < 45) {
            letTimePass();
        } else if (kind < 75) {
            change(random.nextInt(9));
        } else {
            ask(random.nextInt(10));
        }
    }

    private void letTimePass() {
        if (longStops > 0 && random.nextInt(60) == 0) {
            longStops--;
            compare("stop()", model::stop, real::stop);
            return;
        }
        int ticks = random.nextInt(wrongEvery) == 0 ? List.of(0, -1, 1001, 1000).get(random.nextInt(4))
                : number(1, longest);
        compare("run(" + ticks + ")", () -> model.run(ticks), () -> real.run(ticks));
    }

    private void change(int kind) {
        switch (kind) {
            case 0, 1 -> changeRoad();
            case 2, 3 -> {
                int demand = random.nextInt(4) == 0 ? 0 : argument(0, 2000);
                compare("setDemand(" + demand + ")", () -> model.setDemand(demand), () -> real.setDemand(demand));
            }
            case 4 -> {
                int delay = random.nextInt(3) == 0 ? argument(1, 5000) : argument(1, 40);
                int demand = argument(0, 2000);
                compare("plan(" + delay + ", " + demand + ")", () -> model.plan(delay, demand),
                        () -> real.plan(delay, demand));
            }
            case 5 -> {
                int wheel = argument(0, 3);
                boolean faulty = random.nextInt(3) == 0;
                compare("setFault(" + wheel + ", " + faulty + ")", () -> model.setFault(wheel, faulty),
                        () -> Check.number(real.setFault(wheel, faulty)));
            }
            case 6 -> {
                boolean on = random.nextInt(4) != 0;
                compare("setOn(" + on + ")", () -> model.setOn(on), () -> Check.number(real.setOn(on)));
            }
            case 7 -> {
                if (random.nextInt(2) == 0) {
                    compare("repair()", model::repair, real::repair);
                } else {
                    int speed = random.nextInt(3) == 0 ? argument(0, 60000) : number(8000, 40000);
                    compare("setSpeed(" + speed + ")", () -> model.setSpeed(speed), () -> real.setSpeed(speed));
                }
            }
            default -> compare("undo()", model::undo, real::undo);
        }
    }

    private void changeRoad() {
        int here = (int) model.car(1);
        int start = random.nextInt(3) == 0 ? here + argument(0, 20)
                : random.nextInt(4) == 0 ? (int) model.segment((int) model.segments() - 1, 0)
                : here + number(0, longest * 400);
        int left = argument(0, 2);
        int right = argument(0, 2);
        compare("addSegment(" + start + ", " + left + ", " + right + ")",
                () -> model.addSegment(start, left, right), () -> real.addSegment(start, left, right));
    }

    private void ask(int kind) {
        int wheel = argument(0, 3);
        int what = argument(0, 2);
        switch (kind) {
            case 0 -> {
                int value = argument(0, 9);
                compare("car(" + value + ")", () -> model.car(value), () -> real.car(value));
            }
            case 1, 2 -> {
                int value = argument(0, 11);
                compare("wheel(" + wheel + ", " + value + ")", () -> model.wheel(wheel, value),
                        () -> real.wheel(wheel, value));
            }
            case 3 -> compare("friction(" + wheel + ")", () -> model.friction(wheel), () -> real.friction(wheel));
            case 4 -> {
                int slip = argument(0, 1000);
                compare("frictionFor(" + what + ", " + slip + ")", () -> model.frictionFor(what, slip),
                        () -> real.frictionFor(what, slip));
            }
            case 5 -> {
                int index = argument(0, (int) model.segments() - 1);
                compare("segment(" + index + ", " + what + ")", () -> model.segment(index, what),
                        () -> real.segment(index, what));
            }
            case 6 -> {
                int index = argument(0, (int) Math.max(model.events() - 1, 0));
                compare("event(" + index + ", " + what + ")", () -> model.event(index, what),
                        () -> real.event(index, what));
            }
            case 7 -> {
                compare("segments()", model::segments, real::segments);
                compare("planned()", model::planned, real::planned);
                compare("events()", model::events, real::events);
            }
            default -> askStopDistance();
        }
    }

    private void askStopDistance() {
        if (random.nextInt(12) != 0) {
            return;
        }
        int speed = argument(0, 60000);
        int surfaces = random.nextInt(3) == 0 ? argument(0, 23) : 10 * number(0, 2) + number(0, 2);
        int demand = argument(0, 2000);
        boolean on = random.nextBoolean();
        compare("stopDistance(" + speed + ", " + surfaces + ", " + demand + ", " + on + ")",
                () -> model.stopDistance(speed, surfaces, demand, on),
                () -> real.stopDistance(speed, surfaces, demand, on));
    }
}
