/**
 * An anti-lock brake controller for a car with four wheels, together with a simulation of the car.
 * The document ../shared/DOC.md says what every call answers.
 */
public final class AntilockBrakes {
    public static final int NONE = -1;
    public static final int DRY = 0, WET = 1, ICE = 2;
    public static final int NORMAL = 0, HOLD = 1, DUMP = 2, RECOVER = 3, BUILD = 4;
    public static final int PHASE = 0, EXCLUDED = 1, FULL = 2;

    private static final int WHEELS = 4;
    private static final int MAX_SPEED = 60000;
    private static final int MAX_DEMAND = 2000;
    private static final int MAX_START = 100000000;
    private static final int MAX_DELAY = 5000;
    private static final int MAX_RUN_TICKS = 1000;
    private static final int MAX_STOP_TICKS = 5000;
    private static final int MAX_SLIP = 1000;
    private static final int MAX_SAVED = 3;
    private static final int CAR_VALUES = 10;
    private static final int WHEEL_VALUES = 12;
    private static final int ROW_VALUES = 3;
    private static final long DIGEST_START = 19707;

    private final Car now;
    // Kept beside the car, so that stopDistance() makes no new objects.
    private final Car trial;
    private final Car[] saved;
    private int savedCount;

    public AntilockBrakes() {
        now = new Car();
        trial = new Car();
        saved = new Car[MAX_SAVED];
        for (int i = 0; i < MAX_SAVED; i++) {
            saved[i] = new Car();
        }
        savedCount = 0;
    }

    public int setSpeed(int speed) throws IllegalArgumentException {
        if (!isWithin(speed, 0, MAX_SPEED)) {
            throw new IllegalArgumentException("speed is out of range");
        }
        saveState();
        int previous = now.speed;
        now.startAt(speed);
        return previous;
    }

    public int addSegment(int start, int left, int right) throws IllegalArgumentException, IllegalStateException {
        if (!isWithin(start, now.position, MAX_START) || !isSurface(left) || !isSurface(right)) {
            throw new IllegalArgumentException("an argument is out of range");
        }
        if (!now.road.hasRoomFor(start)) {
            throw new IllegalStateException("the road is full");
        }
        saveState();
        now.road.put(start, left, right);
        return now.road.count;
    }

    public int setDemand(int demand) throws IllegalArgumentException {
        if (!isWithin(demand, 0, MAX_DEMAND)) {
            throw new IllegalArgumentException("demand is out of range");
        }
        saveState();
        int previous = now.demand;
        now.demand = demand;
        return previous;
    }

    public int plan(int delay, int demand) throws IllegalArgumentException, IllegalStateException {
        if (!isWithin(delay, 1, MAX_DELAY) || !isWithin(demand, 0, MAX_DEMAND)) {
            throw new IllegalArgumentException("an argument is out of range");
        }
        if (now.schedule.isFull()) {
            throw new IllegalStateException("the plan is full");
        }
        saveState();
        now.schedule.put(now.time + delay, demand);
        return now.schedule.count;
    }

    public boolean setFault(int wheel, boolean faulty) throws IndexOutOfBoundsException {
        if (!isWheel(wheel)) {
            throw new IndexOutOfBoundsException("no such wheel");
        }
        saveState();
        boolean previous = now.wheels[wheel].faulty;
        now.wheels[wheel].faulty = faulty;
        return previous;
    }

    public boolean setOn(boolean on) {
        saveState();
        boolean previous = now.controller.switchedOn;
        now.controller.switchedOn = on;
        return previous;
    }

    public int repair() {
        saveState();
        return now.controller.takeBackWheels();
    }

    public int run(int ticks) throws IllegalArgumentException {
        if (!isWithin(ticks, 1, MAX_RUN_TICKS)) {
            throw new IllegalArgumentException("ticks is out of range");
        }
        saveState();
        for (int i = 0; i < ticks; i++) {
            now.tick();
        }
        return now.speed;
    }

    public int stop() {
        saveState();
        return now.tickUntilStill();
    }

    public int stopDistance(int speed, int surfaces, int demand, boolean on) throws IllegalArgumentException {
        if (!isWithin(speed, 0, MAX_SPEED) || !isSurfacePair(surfaces) || !isWithin(demand, 0, MAX_DEMAND)) {
            throw new IllegalArgumentException("speed, surfaces or demand is out of range");
        }
        trial.clear();
        trial.startAt(speed);
        trial.road.put(0, surfaces / 10, surfaces % 10);
        trial.demand = demand;
        trial.controller.switchedOn = on;
        trial.tickUntilStill();
        return trial.position;
    }

    public int car(int what) throws IllegalArgumentException {
        if (!isWithin(what, 0, CAR_VALUES - 1)) {
            throw new IllegalArgumentException("what is out of range");
        }
        return now.carValue(what);
    }

    public int wheel(int wheel, int what) throws IndexOutOfBoundsException, IllegalArgumentException {
        if (!isWheel(wheel)) {
            throw new IndexOutOfBoundsException("no such wheel");
        }
        if (!isWithin(what, 0, WHEEL_VALUES - 1)) {
            throw new IllegalArgumentException("what is out of range");
        }
        return now.wheelValue(wheel, what);
    }

    public int friction(int wheel) throws IndexOutOfBoundsException {
        if (!isWheel(wheel)) {
            throw new IndexOutOfBoundsException("no such wheel");
        }
        return now.gripOfWheel(wheel);
    }

    public int frictionFor(int surface, int slip) throws IllegalArgumentException {
        if (!isSurface(surface) || !isWithin(slip, 0, MAX_SLIP)) {
            throw new IllegalArgumentException("an argument is out of range");
        }
        return gripFor(surface, slip);
    }

    public int segments() {
        return now.road.count;
    }

    public int segment(int index, int what) throws IndexOutOfBoundsException, IllegalArgumentException {
        if (!isWithin(index, 0, now.road.count - 1)) {
            throw new IndexOutOfBoundsException("no such segment");
        }
        if (!isWithin(what, 0, ROW_VALUES - 1)) {
            throw new IllegalArgumentException("what is out of range");
        }
        return now.road.value(index, what);
    }

    public int planned() {
        return now.schedule.count;
    }

    public int events() {
        return now.log.count;
    }

    public int event(int index, int what) throws IndexOutOfBoundsException, IllegalArgumentException {
        if (!isWithin(index, 0, now.log.count - 1)) {
            throw new IndexOutOfBoundsException("no such event");
        }
        if (!isWithin(what, 0, ROW_VALUES - 1)) {
            throw new IllegalArgumentException("what is out of range");
        }
        return now.log.value(index, what);
    }

    public int undo() throws IllegalStateException {
        if (savedCount <= 0) {
            throw new IllegalStateException("nothing to undo");
        }
        savedCount--;
        now.copyFrom(saved[savedCount]);
        return savedCount;
    }

    public long digest() {
        return now.mixInto(mix(DIGEST_START, savedCount));
    }

    private void saveState() {
        if (savedCount >= MAX_SAVED) {
            dropOldestSaved();
        }
        saved[savedCount].copyFrom(now);
        savedCount++;
    }

    // The dropped car goes to the end, where the next saved state overwrites it.
    private void dropOldestSaved() {
        Car oldest = saved[0];
        for (int i = 1; i < MAX_SAVED; i++) {
            saved[i - 1] = saved[i];
        }
        saved[MAX_SAVED - 1] = oldest;
        savedCount = MAX_SAVED - 1;
    }

    private static boolean isWithin(int value, int low, int high) {
        return value >= low && value <= high;
    }

    private static boolean isWheel(int wheel) {
        return isWithin(wheel, 0, WHEELS - 1);
    }

    private static boolean isSurface(int surface) {
        return isWithin(surface, DRY, ICE);
    }

    private static boolean isSurfacePair(int surfaces) {
        return surfaces >= 0 && isSurface(surfaces / 10) && isSurface(surfaces % 10);
    }

    private static int peakOf(int surface) {
        return surface == DRY ? 1000 : surface == WET ? 600 : 150;
    }

    private static int slideShareOf(int surface) {
        return surface == DRY ? 750 : surface == WET ? 700 : 600;
    }

    private static int gripFor(int surface, int slip) {
        int peak = peakOf(surface);
        if (slip <= 150) {
            return Math.floorDiv(peak * slip, 150);
        }
        return peak - Math.floorDiv(peak * (1000 - slideShareOf(surface)) * (slip - 150), 850000);
    }

    private static long mix(long hash, int value) {
        return 31 * hash + value;
    }

    private static int asNumber(boolean flag) {
        return flag ? 1 : 0;
    }

    /** A wheel with its brake, its sensor, and what the controller keeps of it. */
    private static final class Wheel {
        static final int MOST_KEPT = 5;
        static final int LOCK_SPEED = 1400;

        int speed;
        int pressure;
        int phase;
        int phaseTicks;
        int cycles;
        int valveCount;
        int lockedTicks;
        int suspicion;
        boolean excluded;
        boolean faulty;
        // The latest measured values, the oldest one first.
        final int[] measured;
        int kept;
        int acceleration;
        int estimatedSlip;
        // Passed from one step of a tick to a later one of the same tick; no part of the state.
        int grip;
        int nextPhase;

        Wheel() {
            measured = new int[MOST_KEPT];
        }

        void clear() {
            startAt(0);
            cycles = 0;
            valveCount = 0;
            lockedTicks = 0;
            excluded = false;
            faulty = false;
        }

        void startAt(int newSpeed) {
            speed = newSpeed;
            pressure = 0;
            phase = NORMAL;
            phaseTicks = 0;
            suspicion = 0;
            kept = 0;
            acceleration = 0;
            estimatedSlip = 0;
        }

        void copyFrom(Wheel other) {
            speed = other.speed;
            pressure = other.pressure;
            phase = other.phase;
            phaseTicks = other.phaseTicks;
            cycles = other.cycles;
            valveCount = other.valveCount;
            lockedTicks = other.lockedTicks;
            suspicion = other.suspicion;
            excluded = other.excluded;
            faulty = other.faulty;
            System.arraycopy(other.measured, 0, measured, 0, MOST_KEPT);
            kept = other.kept;
            acceleration = other.acceleration;
            estimatedSlip = other.estimatedSlip;
        }

        int slip(int carSpeed) {
            return carSpeed <= 0 ? 0 : Math.floorDiv(1000 * (carSpeed - speed), carSpeed);
        }

        void turn(int carSpeed) {
            speed = Math.min(Math.max(speed + 2 * (grip - pressure), 0), carSpeed);
        }

        void countLocked(int carSpeed) {
            if (speed == 0 && carSpeed > LOCK_SPEED) {
                lockedTicks++;
            }
        }

        void measure() {
            if (kept >= MOST_KEPT) {
                forgetOldest();
            }
            measured[kept] = faulty ? 0 : speed;
            kept++;
            acceleration = kept < 2 ? 0 : Math.floorDiv(latest() - measured[0], kept - 1);
        }

        void forgetOldest() {
            System.arraycopy(measured, 1, measured, 0, MOST_KEPT - 1);
            kept = MOST_KEPT - 1;
        }

        int latest() {
            return kept > 0 ? measured[kept - 1] : 0;
        }

        void estimateSlip(int reference) {
            int behind = reference - latest();
            estimatedSlip = reference <= 0 || behind <= 0 ? 0 : Math.floorDiv(1000 * behind, reference);
        }

        void enter(int newPhase) {
            phase = newPhase;
            phaseTicks = 0;
            valveCount++;
            if (newPhase == DUMP) {
                cycles++;
            }
        }

        // Not for DUMP, which needs the accumulator.
        void movePressure(int wanted) {
            switch (phase) {
                case HOLD:
                case RECOVER:
                    pressure = Math.min(pressure, wanted);
                    break;
                case BUILD:
                    pressure = Math.min(phaseTicks % 2 != 0 ? pressure + 20 : pressure, wanted);
                    break;
                default:
                    pressure = pressure < wanted
                            ? Math.min(pressure + 40, wanted)
                            : Math.max(pressure - 80, wanted);
                    break;
            }
        }
    }

    /** The segments of the road, ordered by their starts. */
    private static final class Road {
        static final int MOST = 12;

        final int[] starts;
        final int[] lefts;
        final int[] rights;
        int count;

        Road() {
            starts = new int[MOST];
            lefts = new int[MOST];
            rights = new int[MOST];
        }

        void clear() {
            setRow(0, 0, DRY, DRY);
            count = 1;
        }

        void copyFrom(Road other) {
            System.arraycopy(other.starts, 0, starts, 0, MOST);
            System.arraycopy(other.lefts, 0, lefts, 0, MOST);
            System.arraycopy(other.rights, 0, rights, 0, MOST);
            count = other.count;
        }

        int present(int position) {
            int found = 0;
            while (found + 1 < count && starts[found + 1] <= position) {
                found++;
            }
            return found;
        }

        int surfaceAt(int position, boolean onLeft) {
            int row = present(position);
            return onLeft ? lefts[row] : rights[row];
        }

        boolean hasRoomFor(int start) {
            return count < MOST || isStart(placeOf(start), start);
        }

        void put(int start, int left, int right) {
            int place = placeOf(start);
            if (isStart(place, start)) {
                setRow(place, start, left, right);
            } else if (count < MOST) {
                shift(place, place + 1, count - place);
                setRow(place, start, left, right);
                count++;
            }
        }

        void dropPassed(int position) {
            int passed = present(position);
            if (passed > 0) {
                shift(passed, 0, count - passed);
                count -= passed;
            }
        }

        int value(int row, int what) {
            switch (what) {
                case 0: return starts[row];
                case 1: return lefts[row];
                default: return rights[row];
            }
        }

        long mixInto(long hash) {
            long mixed = mix(hash, count);
            for (int i = 0; i < count; i++) {
                mixed = mix(mix(mix(mixed, starts[i]), lefts[i]), rights[i]);
            }
            return mixed;
        }

        int placeOf(int start) {
            int place = 0;
            while (place < count && starts[place] < start) {
                place++;
            }
            return place;
        }

        boolean isStart(int place, int start) {
            return place < count && starts[place] == start;
        }

        void setRow(int row, int start, int left, int right) {
            starts[row] = start;
            lefts[row] = left;
            rights[row] = right;
        }

        void shift(int from, int to, int length) {
            System.arraycopy(starts, from, starts, to, length);
            System.arraycopy(lefts, from, lefts, to, length);
            System.arraycopy(rights, from, rights, to, length);
        }
    }

    /** The plan of the driver's demands, ordered by time. */
    private static final class Schedule {
        static final int MOST = 10;

        final int[] times;
        final int[] demands;
        int count;

        Schedule() {
            times = new int[MOST];
            demands = new int[MOST];
        }

        void clear() {
            count = 0;
        }

        void copyFrom(Schedule other) {
            System.arraycopy(other.times, 0, times, 0, MOST);
            System.arraycopy(other.demands, 0, demands, 0, MOST);
            count = other.count;
        }

        boolean isFull() {
            return count >= MOST;
        }

        void put(int time, int demand) {
            if (isFull()) {
                return;
            }
            int place = entriesUntil(time);
            shift(place, place + 1, count - place);
            times[place] = time;
            demands[place] = demand;
            count++;
        }

        // Of several entries that are due, the last one is the one that stands afterwards.
        int takeDemand(int time, int demand) {
            int due = entriesUntil(time);
            if (due <= 0) {
                return demand;
            }
            int taken = demands[due - 1];
            shift(due, 0, count - due);
            count -= due;
            return taken;
        }

        long mixInto(long hash) {
            long mixed = mix(hash, count);
            for (int i = 0; i < count; i++) {
                mixed = mix(mix(mixed, times[i]), demands[i]);
            }
            return mixed;
        }

        int entriesUntil(int time) {
            int found = 0;
            while (found < count && times[found] <= time) {
                found++;
            }
            return found;
        }

        void shift(int from, int to, int length) {
            System.arraycopy(times, from, times, to, length);
            System.arraycopy(demands, from, demands, to, length);
        }
    }

    /** The latest events, in a ring of rows. */
    private static final class Log {
        static final int MOST = 40;

        final int[] times;
        final int[] kinds;
        final int[] values;
        int first;
        int count;

        Log() {
            times = new int[MOST];
            kinds = new int[MOST];
            values = new int[MOST];
        }

        void clear() {
            first = 0;
            count = 0;
        }

        void copyFrom(Log other) {
            System.arraycopy(other.times, 0, times, 0, MOST);
            System.arraycopy(other.kinds, 0, kinds, 0, MOST);
            System.arraycopy(other.values, 0, values, 0, MOST);
            first = other.first;
            count = other.count;
        }

        void add(int time, int kind, int value) {
            int row = (first + count) % MOST;
            times[row] = time;
            kinds[row] = kind;
            values[row] = value;
            if (count < MOST) {
                count++;
            } else {
                first = (first + 1) % MOST;
            }
        }

        int value(int index, int what) {
            int row = rowOf(index);
            switch (what) {
                case 0: return times[row];
                case 1: return kinds[row];
                default: return values[row];
            }
        }

        long mixInto(long hash) {
            long mixed = mix(hash, count);
            for (int i = 0; i < count; i++) {
                int row = rowOf(i);
                mixed = mix(mix(mix(mixed, times[row]), kinds[row]), values[row]);
            }
            return mixed;
        }

        int rowOf(int index) {
            return (first + index) % MOST;
        }
    }

    /** The anti-lock controller: it sees the wheels by their measured values alone. */
    private static final class Controller {
        static final int FIRST_YAW = 150;
        static final int MOST_YAW = 1000;
        static final int LEAST_ACTIVE = 1400;
        static final int LEAST_SUSPECT = 3000;
        static final int EXCLUDING_SUSPICION = 25;
        static final int REAR_FALLBACK = 500;
        static final int FULL_ABOVE = 550;

        final Wheel[] wheels;
        final Log log;
        boolean switchedOn;
        int reference;
        int accumulator;
        int pumpTicks;
        int yawAllowance;
        // Whether the wheel that was to be dumped last found the accumulator full.
        boolean lastDumpRefused;

        Controller() {
            wheels = new Wheel[WHEELS];
            for (int i = 0; i < WHEELS; i++) {
                wheels[i] = new Wheel();
            }
            log = new Log();
        }

        void clear() {
            for (int i = 0; i < WHEELS; i++) {
                wheels[i].clear();
            }
            log.clear();
            startAt(0);
            switchedOn = true;
            pumpTicks = 0;
        }

        void startAt(int speed) {
            for (int i = 0; i < WHEELS; i++) {
                wheels[i].startAt(speed);
            }
            reference = speed;
            accumulator = 0;
            yawAllowance = FIRST_YAW;
            lastDumpRefused = false;
        }

        void copyFrom(Controller other) {
            for (int i = 0; i < WHEELS; i++) {
                wheels[i].copyFrom(other.wheels[i]);
            }
            log.copyFrom(other.log);
            switchedOn = other.switchedOn;
            reference = other.reference;
            accumulator = other.accumulator;
            pumpTicks = other.pumpTicks;
            yawAllowance = other.yawAllowance;
            lastDumpRefused = other.lastDumpRefused;
        }

        void act(int time, int demand) {
            measureWheels();
            followReference();
            estimateSlips();
            suspectWheels(time);
            choosePhases(demand);
            enterPhases(time);
            movePressures(time, demand);
            limitYaw();
            pump();
        }

        boolean isActive(int demand) {
            return switchedOn && demand > 0 && reference >= LEAST_ACTIVE && excludedWheels() < 2;
        }

        int takeBackWheels() {
            int taken = excludedWheels();
            for (int i = 0; i < WHEELS; i++) {
                wheels[i].excluded = false;
                wheels[i].suspicion = 0;
            }
            return taken;
        }

        int excludedWheels() {
            int excluded = 0;
            for (int i = 0; i < WHEELS; i++) {
                if (wheels[i].excluded) {
                    excluded++;
                }
            }
            return excluded;
        }

        boolean isFrontExcluded() {
            return wheels[0].excluded || wheels[1].excluded;
        }

        boolean isRearExcluded() {
            return wheels[2].excluded || wheels[3].excluded;
        }

        void measureWheels() {
            for (int i = 0; i < WHEELS; i++) {
                wheels[i].measure();
            }
        }

        void followReference() {
            int greatest = 0;
            for (int i = 0; i < WHEELS; i++) {
                if (!wheels[i].excluded) {
                    greatest = Math.max(greatest, wheels[i].latest());
                }
            }
            reference = greatest >= reference
                    ? Math.min(greatest, reference + 60)
                    : Math.max(greatest, reference - 120);
        }

        void estimateSlips() {
            for (int i = 0; i < WHEELS; i++) {
                wheels[i].estimateSlip(reference);
            }
        }

        void suspectWheels(int time) {
            for (int i = 0; i < WHEELS; i++) {
                if (!wheels[i].excluded) {
                    suspect(i, time);
                }
            }
        }

        void suspect(int index, int time) {
            Wheel wheel = wheels[index];
            boolean silent = wheel.latest() == 0 && reference >= LEAST_SUSPECT;
            wheel.suspicion = silent ? wheel.suspicion + 1 : 0;
            if (wheel.suspicion == EXCLUDING_SUSPICION) {
                wheel.excluded = true;
                log.add(time, EXCLUDED, index);
            }
        }

        void choosePhases(int demand) {
            boolean active = isActive(demand);
            boolean front = active && !isFrontExcluded();
            boolean rear = active && !isRearExcluded();
            for (int i = 0; i < WHEELS; i++) {
                boolean controlled = i < 2 ? front : rear;
                wheels[i].nextPhase = controlled ? phaseAfter(wheels[i], demand) : NORMAL;
            }
            if (rear) {
                selectLow(wheels[2], wheels[3]);
            }
        }

        void selectLow(Wheel left, Wheel right) {
            int phase = urgency(left.nextPhase) <= urgency(right.nextPhase) ? left.nextPhase : right.nextPhase;
            left.nextPhase = phase;
            right.nextPhase = phase;
        }

        static int urgency(int phase) {
            switch (phase) {
                case DUMP: return 0;
                case HOLD: return 1;
                case RECOVER: return 2;
                case BUILD: return 3;
                default: return 4;
            }
        }

        static int phaseAfter(Wheel wheel, int demand) {
            int slip = wheel.estimatedSlip;
            int acceleration = wheel.acceleration;
            boolean deep = slip > 200 && acceleration < -30;
            switch (wheel.phase) {
                case HOLD:
                    return deep ? DUMP : acceleration >= 0 || slip <= 60 ? BUILD : HOLD;
                case DUMP:
                    return acceleration > 10 || slip <= 60 ? RECOVER : DUMP;
                case RECOVER:
                    return slip <= 60 || acceleration <= 10 && slip <= 150 ? BUILD : deep ? DUMP : RECOVER;
                case BUILD:
                    return deep ? DUMP : wheel.pressure >= demand ? NORMAL : BUILD;
                default:
                    return deep ? DUMP : slip > 100 && acceleration < -60 ? HOLD : NORMAL;
            }
        }

        void enterPhases(int time) {
            for (int i = 0; i < WHEELS; i++) {
                Wheel wheel = wheels[i];
                if (wheel.nextPhase != wheel.phase) {
                    wheel.enter(wheel.nextPhase);
                    log.add(time, PHASE, 10 * i + wheel.phase);
                } else {
                    wheel.phaseTicks++;
                }
            }
        }

        void movePressures(int time, int demand) {
            int rearWanted = isRearExcluded() ? Math.min(demand, REAR_FALLBACK) : demand;
            for (int i = 0; i < WHEELS; i++) {
                if (wheels[i].phase == DUMP) {
                    dump(i, time);
                } else {
                    wheels[i].movePressure(i < 2 ? demand : rearWanted);
                }
            }
        }

        void dump(int index, int time) {
            boolean refused = accumulator > FULL_ABOVE;
            if (!refused) {
                int released = Math.min(wheels[index].pressure, 50);
                wheels[index].pressure -= released;
                accumulator += released;
            } else if (!lastDumpRefused) {
                log.add(time, FULL, index);
            }
            lastDumpRefused = refused;
        }

        void limitYaw() {
            Wheel left = wheels[0];
            Wheel right = wheels[1];
            if (left.phase == NORMAL && right.phase == NORMAL) {
                yawAllowance = FIRST_YAW;
                return;
            }
            int most = Math.min(left.pressure, right.pressure) + yawAllowance;
            left.pressure = Math.min(left.pressure, most);
            right.pressure = Math.min(right.pressure, most);
            yawAllowance = Math.min(yawAllowance + 4, MOST_YAW);
        }

        void pump() {
            if (accumulator > 0) {
                pumpTicks++;
                accumulator = Math.max(accumulator - 20, 0);
            }
        }
    }

    /** The whole state that undo() restores: the car, its road, its plan, its controller and its events. */
    private static final class Car {
        final Controller controller;
        // The controller's own wheels and events, which the car shares with it.
        final Wheel[] wheels;
        final Log log;
        final Road road;
        final Schedule schedule;
        int speed;
        int position;
        int time;
        int demand;

        Car() {
            controller = new Controller();
            wheels = controller.wheels;
            log = controller.log;
            road = new Road();
            schedule = new Schedule();
            clear();
        }

        void clear() {
            controller.clear();
            road.clear();
            schedule.clear();
            speed = 0;
            position = 0;
            time = 0;
            demand = 0;
        }

        void copyFrom(Car other) {
            controller.copyFrom(other.controller);
            road.copyFrom(other.road);
            schedule.copyFrom(other.schedule);
            speed = other.speed;
            position = other.position;
            time = other.time;
            demand = other.demand;
        }

        void startAt(int newSpeed) {
            speed = newSpeed;
            controller.startAt(newSpeed);
        }

        void tick() {
            time++;
            demand = schedule.takeDemand(time, demand);
            int gripSum = findGrips();
            position += Math.floorDiv(speed, 100);
            speed = Math.max(speed - Math.floorDiv(gripSum, 40), 0);
            for (int i = 0; i < WHEELS; i++) {
                wheels[i].turn(speed);
            }
            road.dropPassed(position);
            controller.act(time, demand);
            for (int i = 0; i < WHEELS; i++) {
                wheels[i].countLocked(speed);
            }
        }

        int tickUntilStill() {
            int ticks = 0;
            while (ticks < MAX_STOP_TICKS && speed > 0) {
                tick();
                ticks++;
            }
            return ticks;
        }

        int findGrips() {
            int sum = 0;
            for (int i = 0; i < WHEELS; i++) {
                wheels[i].grip = gripOfWheel(i);
                sum += wheels[i].grip;
            }
            return sum;
        }

        int gripOfWheel(int index) {
            boolean onLeft = index % 2 == 0;
            return gripFor(road.surfaceAt(position, onLeft), wheels[index].slip(speed));
        }

        int carValue(int what) {
            switch (what) {
                case 0: return speed;
                case 1: return position;
                case 2: return time;
                case 3: return demand;
                case 4: return controller.reference;
                case 5: return controller.accumulator;
                case 6: return controller.pumpTicks;
                case 7: return controller.yawAllowance;
                case 8: return asNumber(controller.isActive(demand));
                default: return asNumber(controller.switchedOn);
            }
        }

        int wheelValue(int index, int what) {
            Wheel wheel = wheels[index];
            switch (what) {
                case 0: return wheel.speed;
                case 1: return wheel.pressure;
                case 2: return wheel.phase;
                case 3: return wheel.phaseTicks;
                case 4: return wheel.cycles;
                case 5: return wheel.valveCount;
                case 6: return wheel.lockedTicks;
                case 7: return asNumber(wheel.excluded);
                case 8: return wheel.suspicion;
                case 9: return wheel.slip(speed);
                case 10: return wheel.estimatedSlip;
                default: return wheel.acceleration;
            }
        }

        long mixInto(long hash) {
            long mixed = hash;
            for (int what = 0; what < CAR_VALUES; what++) {
                mixed = mix(mixed, carValue(what));
            }
            for (int i = 0; i < WHEELS; i++) {
                mixed = mixWheel(mixed, i);
            }
            return log.mixInto(schedule.mixInto(road.mixInto(mixed)));
        }

        long mixWheel(long hash, int index) {
            long mixed = hash;
            for (int what = 0; what < WHEEL_VALUES; what++) {
                mixed = mix(mixed, wheelValue(index, what));
            }
            mixed = mix(mixed, gripOfWheel(index));
            return mix(mixed, asNumber(wheels[index].faulty));
        }
    }
}
