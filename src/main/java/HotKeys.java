import java.util.Arrays;

/**
 * Rows come by their keys to places and are folded into states; hot keys are found by a few
 * counters and their states parted over several places. README.md tells how to use it.
 */
public final class HotKeys {
    public static final int NONE = -1, UNKNOWN = -101, OUTSIDE = -102, STATE = -103, ROOM = -104;

    private static final long NOTHING = -4000000000000L;
    private static final int KEYS = 100;
    private static final int VALUE_BOUND = 1000;
    private static final int MAX_PLACES = 8;
    private static final int MIN_ROUND = 8;
    private static final int MAX_ROUND = 200;
    private static final int MAX_COUNTERS = 12;
    private static final int MAX_FOLDS = 6;
    private static final int MAX_ROWS = 450;
    private static final int MAX_SMALLS = 60;
    private static final int MAX_TIMERS = 40;
    private static final int MAX_TIME = 1000000;
    private static final int MAX_MARKS = 4;
    private static final int LOG_KEPT = 64;
    private static final int LOG_WIDTH = 2 + MAX_FOLDS;
    private static final int SPREAD = 0x9E3779B1;

    private static final int COUNT = 0, SUM = 1, LEAST = 2, GREATEST = 3, SET = 4, LAST = 5,
            CHAIN = 6, FALLS = 7;

    private int places;
    private int round;
    private int threshold;
    private int slack;
    private final Folds folds = new Folds();
    private final KeyStates keyStates = new KeyStates(folds);
    private final Counters counters = new Counters();
    private final Smalls smalls = new Smalls();
    private final Timers timers = new Timers();
    private final Log log = new Log();
    private final Mark[] marks = new Mark[MAX_MARKS];
    private final int[] loads = new int[MAX_PLACES];
    private int markCount;
    private int rows;
    private int roundRows;
    private int rounds;
    private int flips;
    private int passedOver;

    public HotKeys() {
        begin();
    }

    public int shape(int places, int round, int threshold, int slack, int counters) {
        if (!isWithin(places, 2, MAX_PLACES) || !isWithin(round, MIN_ROUND, MAX_ROUND)
                || !isWithin(threshold, 1, round) || !isWithin(slack, 0, threshold - 1)
                || !isWithin(counters, 1, MAX_COUNTERS)) {
            return OUTSIDE;
        }
        if (rows > 0) {
            return STATE;
        }
        setShape(places, round, threshold, slack, counters);
        keyStates.makeAllOne();
        return 1;
    }

    public int fold(int kind, boolean declared) {
        if (!isWithin(kind, COUNT, FALLS)) {
            return OUTSIDE;
        }
        if (rows > 0 || markCount > 0 || keyStates.splitKeys() > 0) {
            return STATE;
        }
        if (folds.count >= MAX_FOLDS) {
            return ROOM;
        }
        int fold = folds.add(kind, declared);
        keyStates.startFold(fold);
        return fold;
    }

    public int row(int key, int v) {
        if (!isKey(key)) {
            return UNKNOWN;
        }
        if (!isWithin(v, -VALUE_BOUND, VALUE_BOUND)) {
            return OUTSIDE;
        }
        if (rows >= MAX_ROWS) {
            return ROOM;
        }
        int part = partOfRow(rows, keyStates.partCount(key));
        int place = placeOfPart(key, part);
        keyStates.take(key, part, rows, v);
        smalls.meet(key, v);
        loads[place]++;
        rows++;
        roundRows++;
        counters.take(key);
        if (roundRows >= round) {
            endRound();
        }
        return place;
    }

    public long state(int fold, int key) {
        if (!isFold(fold) || !isKey(key)) {
            return NOTHING;
        }
        return keyStates.joinedState(key, fold);
    }

    public long part(int fold, int key, int i) {
        if (!isFold(fold) || !isKey(key) || !keyStates.hasPart(key, i)) {
            return NOTHING;
        }
        return keyStates.partState(key, i, fold);
    }

    public int parts(int key) {
        return isKey(key) ? keyStates.partCount(key) : UNKNOWN;
    }

    public int place(int key, int i) {
        if (!isKey(key)) {
            return UNKNOWN;
        }
        return keyStates.hasPart(key, i) ? placeOfPart(key, i) : NONE;
    }

    public int split(int key, int q) {
        if (!isKey(key)) {
            return UNKNOWN;
        }
        if (!isWithin(q, 2, places)) {
            return OUTSIDE;
        }
        if (keyStates.isSplit(key) || !folds.allCanBeJoined()) {
            return STATE;
        }
        keyStates.breakUp(key, q);
        return 1;
    }

    public int back(int key) {
        if (!isKey(key)) {
            return UNKNOWN;
        }
        if (!keyStates.isSplit(key)) {
            return STATE;
        }
        return keyStates.bringBack(key);
    }

    public int tree(int key, int k) {
        if (!isKey(key)) {
            return UNKNOWN;
        }
        return k < 0 ? NONE : joinOfTree(keyStates.partCount(key), k);
    }

    public int counter(int i, int what) {
        if (!isWithin(i, 0, counters.limit - 1)) {
            return OUTSIDE;
        }
        switch (what) {
            case 0: return counters.keyAt(i);
            case 1: return counters.countAt(i);
            case 2: return counters.errorAt(i);
            default: return OUTSIDE;
        }
    }

    public int hot(int key) {
        if (!isKey(key)) {
            return UNKNOWN;
        }
        if (counters.atLeast(key) >= threshold) {
            return 2;
        }
        return counters.atMost(key) >= threshold ? 1 : 0;
    }

    public int splitKey(int k) {
        int before = 0;
        for (int key = 0; key < KEYS; key++) {
            if (keyStates.isSplit(key)) {
                if (before == k) {
                    return key;
                }
                before++;
            }
        }
        return NONE;
    }

    public int load(int place) {
        return isPlace(place) ? loads[place] : UNKNOWN;
    }

    public int small(int key, int weight) {
        if (!isKey(key)) {
            return UNKNOWN;
        }
        if (!isWithin(weight, -VALUE_BOUND, VALUE_BOUND)) {
            return OUTSIDE;
        }
        if (smalls.count >= MAX_SMALLS) {
            return ROOM;
        }
        smalls.add(key, weight);
        return smalls.count;
    }

    public int copies(int place) {
        if (!isPlace(place)) {
            return UNKNOWN;
        }
        int lying = 0;
        for (int i = 0; i < smalls.count; i++) {
            if (hasPartAt(smalls.keys[i], place)) {
                lying++;
            }
        }
        return lying;
    }

    public long out() {
        return smalls.out;
    }

    public int timer(int key, int time) {
        if (!isKey(key)) {
            return UNKNOWN;
        }
        if (time <= timers.now || time > MAX_TIME) {
            return OUTSIDE;
        }
        if (timers.count >= MAX_TIMERS) {
            return ROOM;
        }
        timers.add(key, time);
        return timers.count;
    }

    public int tick(int t) {
        if (!isWithin(t, timers.now, MAX_TIME)) {
            return OUTSIDE;
        }
        int due = timers.dueAt(t);
        for (int i = 0; i < due; i++) {
            ring(timers.keys[i], timers.times[i]);
        }
        timers.dropFirst(due);
        timers.now = t;
        return due;
    }

    public long log(int i, int what) {
        if (!isWithin(i, 0, log.kept - 1) || !isWithin(what, 0, LOG_WIDTH - 1)) {
            return NOTHING;
        }
        return log.read(i, what);
    }

    public int mark() {
        if (markCount >= MAX_MARKS) {
            return ROOM;
        }
        int number = markCount;
        // A mark that was made before a clear is used again, so that clears cost no room.
        Mark held = marks[number] == null ? new Mark() : marks[number];
        marks[number] = held;
        held.rows = rows;
        held.smalls.copyFrom(smalls);
        held.timers.copyFrom(timers);
        keyStates.holdIn(held);
        markCount++;
        return number;
    }

    public int restore(int mark) {
        if (!isWithin(mark, 0, markCount - 1)) {
            return UNKNOWN;
        }
        Mark held = marks[mark];
        if (held == null) {
            return UNKNOWN;
        }
        rows = held.rows;
        smalls.copyFrom(held.smalls);
        timers.copyFrom(held.timers);
        keyStates.takeFrom(held);
        beginWork();
        return rows;
    }

    public int told(int what) {
        switch (what) {
            case 0: return rows;
            case 1: return roundRows;
            case 2: return rounds;
            case 3: return flips;
            case 4: return passedOver;
            case 5: return smalls.matches;
            case 6: return keyStates.moved;
            case 7: return timers.count;
            case 8: return timers.now;
            case 9: return log.kept;
            case 10: return folds.count;
            case 11: return markCount;
            case 12: return keyStates.splitKeys();
            case 13: return smalls.count;
            default: return OUTSIDE;
        }
    }

    public int clear() {
        int came = rows;
        begin();
        return came;
    }

    private void begin() {
        setShape(4, 32, 8, 2, 4);
        folds.count = 0;
        keyStates.forgetAll();
        smalls.forgetAll();
        timers.forgetAll();
        markCount = 0;
        rows = 0;
        rounds = 0;
        flips = 0;
        passedOver = 0;
        beginWork();
    }

    private void beginWork() {
        counters.used = 0;
        log.kept = 0;
        roundRows = 0;
        Arrays.fill(loads, 0);
    }

    private void setShape(int places, int round, int threshold, int slack, int counters) {
        this.places = places;
        this.round = round;
        this.threshold = threshold;
        this.slack = slack;
        this.counters.limit = counters;
    }

    private static boolean isWithin(int n, int least, int most) {
        return n >= least && n <= most;
    }

    private static boolean isKey(int key) {
        return isWithin(key, 0, KEYS - 1);
    }

    private boolean isFold(int fold) {
        return isWithin(fold, 0, folds.count - 1);
    }

    private boolean isPlace(int place) {
        return isWithin(place, 0, places - 1);
    }

    private static int remainder(int n, int divisor) {
        return divisor > 0 ? n % divisor : 0;
    }

    private static int quotient(int n, int divisor) {
        return divisor > 0 ? n / divisor : 0;
    }

    private static int partOfRow(int n, int parts) {
        return remainder((n * SPREAD) >>> 16, parts);
    }

    private int placeOfPart(int key, int part) {
        return remainder(remainder(key, places) + part, places);
    }

    private boolean hasPartAt(int key, int place) {
        int parts = keyStates.partCount(key);
        for (int part = 0; part < parts; part++) {
            if (placeOfPart(key, part) == place) {
                return true;
            }
        }
        return false;
    }

    private static int joinOfTree(int parts, int k) {
        int before = 0;
        for (int step = 1; step < parts; step += step) {
            for (int a = 0; a + step < parts; a += 2 * step) {
                if (before == k) {
                    return MAX_PLACES * a + a + step;
                }
                before++;
            }
        }
        return NONE;
    }

    private void endRound() {
        splitHotKeys();
        joinCoolKeys();
        counters.used = 0;
        roundRows = 0;
        rounds++;
    }

    private void splitHotKeys() {
        for (int i = 0; i < counters.used; i++) {
            int key = counters.keyAt(i);
            if (counters.surelyAt(i) >= threshold && !keyStates.isSplit(key)) {
                if (folds.allCanBeJoined()) {
                    int wanted = quotient(counters.countAt(i), threshold) + 1;
                    keyStates.breakUp(key, Math.min(places, wanted));
                    flips++;
                } else {
                    passedOver++;
                }
            }
        }
    }

    private void joinCoolKeys() {
        for (int key = 0; key < KEYS; key++) {
            if (keyStates.isSplit(key) && counters.atMost(key) < threshold - slack) {
                keyStates.bringBack(key);
                flips++;
            }
        }
    }

    private void ring(int key, int time) {
        int line = log.open(key, time);
        for (int fold = 0; fold < folds.count; fold++) {
            log.write(line, fold, keyStates.joinedState(key, fold));
        }
        keyStates.emptyKey(key);
    }

    /** The folds that were told: how a state begins, takes a value and joins another. */
    private static final class Folds {
        private final int[] kinds = new int[MAX_FOLDS];
        private final boolean[] declared = new boolean[MAX_FOLDS];
        private int count;

        private int add(int kind, boolean isDeclared) {
            int number = count;
            kinds[number] = kind;
            declared[number] = isDeclared;
            count++;
            return number;
        }

        private boolean allCanBeJoined() {
            for (int i = 0; i < count; i++) {
                if (!declared[i] || kinds[i] == CHAIN || kinds[i] == FALLS) {
                    return false;
                }
            }
            return true;
        }

        private long emptyState(int fold) {
            switch (kinds[fold]) {
                case LEAST:
                case GREATEST:
                case LAST:
                    return NOTHING;
                case CHAIN:
                    return 7;
                default:
                    return 0;
            }
        }

        /** NOTHING is below all values, so LEAST alone must test for it. */
        private long folded(int fold, long state, int v, long before) {
            switch (kinds[fold]) {
                case COUNT:
                    return state + 1;
                case SUM:
                    return state + v;
                case LEAST:
                    return state == NOTHING ? v : Math.min(state, v);
                case GREATEST:
                    return Math.max(state, v);
                case SET:
                    return state | (1L << (v & 15));
                case LAST:
                    return v;
                case CHAIN:
                    return 31 * (int) state + v;
                case FALLS:
                    return v < before ? state + 1 : state;
                default:
                    return state;
            }
        }

        private long joined(int fold, long a, long b, boolean bIsLater) {
            switch (kinds[fold]) {
                case COUNT:
                case SUM:
                    return a + b;
                case LEAST:
                    return a == NOTHING || b == NOTHING ? Math.max(a, b) : Math.min(a, b);
                case GREATEST:
                    return Math.max(a, b);
                case SET:
                    return a | b;
                case LAST:
                    return bIsLater ? b : a;
                default:
                    return a;
            }
        }
    }

    /** The states of all keys, part by part. */
    private static final class KeyStates {
        private final Folds folds;
        private final int[] partCounts = new int[KEYS];
        private final long[] states = new long[KEYS * MAX_PLACES * MAX_FOLDS];
        // The latest row that a part took since it was empty, or NONE: it tells which LAST is
        // the later one, and which parts must be moved.
        private final int[] latestRows = new int[KEYS * MAX_PLACES];
        // One for a key is enough, for FALLS, which alone asks for it, keeps its keys whole.
        private final long[] latestValues = new long[KEYS];
        private int moved;

        private KeyStates(Folds folds) {
            this.folds = folds;
        }

        private void forgetAll() {
            makeAllOne();
            Arrays.fill(latestRows, NONE);
            Arrays.fill(latestValues, NOTHING);
            moved = 0;
        }

        private void makeAllOne() {
            Arrays.fill(partCounts, 1);
        }

        private void startFold(int fold) {
            for (int key = 0; key < KEYS; key++) {
                states[cell(key, 0, fold)] = folds.emptyState(fold);
            }
        }

        private static int slot(int key, int part) {
            return key * MAX_PLACES + part;
        }

        private static int cell(int key, int part, int fold) {
            return (key * MAX_PLACES + part) * MAX_FOLDS + fold;
        }

        private int partCount(int key) {
            return partCounts[key];
        }

        private boolean hasPart(int key, int part) {
            return isWithin(part, 0, partCounts[key] - 1);
        }

        private boolean isSplit(int key) {
            return partCounts[key] > 1;
        }

        private int splitKeys() {
            int number = 0;
            for (int key = 0; key < KEYS; key++) {
                if (isSplit(key)) {
                    number++;
                }
            }
            return number;
        }

        private long partState(int key, int part, int fold) {
            return states[cell(key, part, fold)];
        }

        private void take(int key, int part, int row, int v) {
            for (int fold = 0; fold < folds.count; fold++) {
                int at = cell(key, part, fold);
                states[at] = folds.folded(fold, states[at], v, latestValues[key]);
            }
            latestRows[slot(key, part)] = row;
            latestValues[key] = v;
        }

        /** Goes from part to part, not by the tree: the order of joins changes no answer. */
        private long joinedState(int key, int fold) {
            long whole = states[cell(key, 0, fold)];
            int latest = latestRows[slot(key, 0)];
            for (int part = 1; part < partCounts[key]; part++) {
                int row = latestRows[slot(key, part)];
                whole = folds.joined(fold, whole, states[cell(key, part, fold)], row > latest);
                latest = Math.max(latest, row);
            }
            return whole;
        }

        private int joinedLatestRow(int key) {
            int latest = NONE;
            for (int part = 0; part < partCounts[key]; part++) {
                latest = Math.max(latest, latestRows[slot(key, part)]);
            }
            return latest;
        }

        private void emptyPart(int key, int part) {
            for (int fold = 0; fold < folds.count; fold++) {
                states[cell(key, part, fold)] = folds.emptyState(fold);
            }
            latestRows[slot(key, part)] = NONE;
        }

        private void emptyKey(int key) {
            for (int part = 0; part < partCounts[key]; part++) {
                emptyPart(key, part);
            }
            latestValues[key] = NOTHING;
        }

        private void breakUp(int key, int parts) {
            for (int part = 1; part < parts; part++) {
                emptyPart(key, part);
            }
            partCounts[key] = parts;
        }

        private int bringBack(int key) {
            int carried = 0;
            for (int part = 1; part < partCounts[key]; part++) {
                if (latestRows[slot(key, part)] != NONE) {
                    carried++;
                }
            }
            // Each join reads the first part's latest row, so that is set after all of them.
            for (int fold = 0; fold < folds.count; fold++) {
                states[cell(key, 0, fold)] = joinedState(key, fold);
            }
            latestRows[slot(key, 0)] = joinedLatestRow(key);
            partCounts[key] = 1;
            moved += carried;
            return carried;
        }

        private void holdIn(Mark held) {
            for (int key = 0; key < KEYS; key++) {
                for (int fold = 0; fold < folds.count; fold++) {
                    held.states[key * MAX_FOLDS + fold] = joinedState(key, fold);
                }
                held.latestRows[key] = joinedLatestRow(key);
                held.latestValues[key] = latestValues[key];
            }
        }

        private void takeFrom(Mark held) {
            makeAllOne();
            for (int key = 0; key < KEYS; key++) {
                for (int fold = 0; fold < folds.count; fold++) {
                    states[cell(key, 0, fold)] = held.states[key * MAX_FOLDS + fold];
                }
                latestRows[slot(key, 0)] = held.latestRows[key];
                latestValues[key] = held.latestValues[key];
            }
        }
    }

    /** A few counters, filled from the first one on, so the empty ones stand behind the used. */
    private static final class Counters {
        private final int[] keys = new int[MAX_COUNTERS];
        private final int[] counts = new int[MAX_COUNTERS];
        private final int[] errors = new int[MAX_COUNTERS];
        private int limit;
        private int used;

        private void take(int key) {
            int at = find(key);
            if (at != NONE) {
                counts[at]++;
            } else if (used < limit) {
                put(used, key, 0);
                used++;
            } else {
                int least = leastAt();
                put(least, key, counts[least]);
            }
        }

        private void put(int at, int key, int error) {
            keys[at] = key;
            errors[at] = error;
            counts[at] = error + 1;
        }

        private int find(int key) {
            for (int i = 0; i < used; i++) {
                if (keys[i] == key) {
                    return i;
                }
            }
            return NONE;
        }

        private int leastAt() {
            int least = 0;
            for (int i = 1; i < used; i++) {
                if (counts[i] < counts[least]) {
                    least = i;
                }
            }
            return least;
        }

        private int keyAt(int i) {
            return i < used ? keys[i] : NONE;
        }

        private int countAt(int i) {
            return i < used ? counts[i] : 0;
        }

        private int errorAt(int i) {
            return i < used ? errors[i] : 0;
        }

        private int surelyAt(int i) {
            return countAt(i) - errorAt(i);
        }

        private int atLeast(int key) {
            int at = find(key);
            return at == NONE ? 0 : surelyAt(at);
        }

        private int atMost(int key) {
            int at = find(key);
            if (at != NONE) {
                return counts[at];
            }
            return used < limit ? 0 : counts[leastAt()];
        }
    }

    /** The small rows, and what came of those that met them. */
    private static final class Smalls {
        private final int[] keys = new int[MAX_SMALLS];
        private final int[] weights = new int[MAX_SMALLS];
        private int count;
        private int matches;
        private long out;

        private void forgetAll() {
            count = 0;
            matches = 0;
            out = 0;
        }

        private void add(int key, int weight) {
            keys[count] = key;
            weights[count] = weight;
            count++;
        }

        private void meet(int key, int v) {
            for (int i = 0; i < count; i++) {
                if (keys[i] == key) {
                    matches++;
                    out += (long) v * weights[i];
                }
            }
        }

        private void copyFrom(Smalls other) {
            System.arraycopy(other.keys, 0, keys, 0, other.count);
            System.arraycopy(other.weights, 0, weights, 0, other.count);
            count = other.count;
            matches = other.matches;
            out = other.out;
        }
    }

    /** The timers that wait, in the order in which they will come. */
    private static final class Timers {
        private final int[] keys = new int[MAX_TIMERS];
        private final int[] times = new int[MAX_TIMERS];
        private int count;
        private int now;

        private void forgetAll() {
            count = 0;
            now = 0;
        }

        private int dueAt(int time) {
            int due = 0;
            while (due < count && times[due] <= time) {
                due++;
            }
            return due;
        }

        private void add(int key, int time) {
            int at = dueAt(time);
            System.arraycopy(keys, at, keys, at + 1, count - at);
            System.arraycopy(times, at, times, at + 1, count - at);
            keys[at] = key;
            times[at] = time;
            count++;
        }

        private void dropFirst(int number) {
            count -= number;
            System.arraycopy(keys, number, keys, 0, count);
            System.arraycopy(times, number, times, 0, count);
        }

        private void copyFrom(Timers other) {
            System.arraycopy(other.keys, 0, keys, 0, other.count);
            System.arraycopy(other.times, 0, times, 0, other.count);
            count = other.count;
            now = other.now;
        }
    }

    /** The latest rows of the log, in a ring. */
    private static final class Log {
        private final long[] cells = new long[LOG_KEPT * LOG_WIDTH];
        private int newest;
        private int kept;

        private int open(int key, int time) {
            newest = (newest + 1) % LOG_KEPT;
            kept = Math.min(kept + 1, LOG_KEPT);
            int line = newest * LOG_WIDTH;
            cells[line] = key;
            cells[line + 1] = time;
            Arrays.fill(cells, line + 2, line + LOG_WIDTH, NOTHING);
            return line;
        }

        private void write(int line, int fold, long state) {
            cells[line + 2 + fold] = state;
        }

        private long read(int i, int what) {
            return cells[Math.floorMod(newest - i, LOG_KEPT) * LOG_WIDTH + what];
        }
    }

    /** What a mark holds. */
    private static final class Mark {
        private final long[] states = new long[KEYS * MAX_FOLDS];
        private final int[] latestRows = new int[KEYS];
        private final long[] latestValues = new long[KEYS];
        private final Smalls smalls = new Smalls();
        private final Timers timers = new Timers();
        private int rows;
    }
}
