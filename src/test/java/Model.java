import java.util.ArrayList;
import java.util.Comparator;
import java.util.List;
import java.util.TreeMap;

/**
 * The document once more, in another way: it keeps the rows themselves, part by part, and folds
 * them anew whenever a state is asked for.
 */
final class Model {
    static final long NOTHING = -4000000000000L;

    record Row(int n, int v) { }

    record Fold(int kind, boolean declared) { }

    record Small(int key, int weight) { }

    record Timer(int key, int time) { }

    record Ring(int key, int time, List<Long> states) { }

    record Held(List<List<Row>> rows, List<Small> smalls, List<Timer> timers, int time, int came,
            long out, int matches) { }

    private static final class Counter {
        int key = -1;
        int count;
        int error;
    }

    private int p = 4;
    private int r = 32;
    private int t = 8;
    private int s = 2;
    private Counter[] counters = newCounters(4);
    private final List<Fold> folds = new ArrayList<>();
    private final TreeMap<Integer, List<List<Row>>> split = new TreeMap<>();
    private final List<List<Row>> whole = new ArrayList<>();
    private List<Small> smalls = new ArrayList<>();
    private List<Timer> timers = new ArrayList<>();
    private final List<Ring> rings = new ArrayList<>();
    private final List<Held> marks = new ArrayList<>();
    private int[] done = new int[8];
    private int time;
    private int came;
    private int ofRound;
    private int rounds;
    private int flips;
    private int passed;
    private int matches;
    private int moved;
    private long out;

    Model() {
        for (int i = 0; i < 100; i++) {
            whole.add(new ArrayList<>());
        }
    }

    private static Counter[] newCounters(int m) {
        Counter[] made = new Counter[m];
        for (int i = 0; i < m; i++) {
            made[i] = new Counter();
        }
        return made;
    }

    private static boolean noKey(int key) {
        return key < 0 || key > 99;
    }

    int shape(int places, int round, int threshold, int slack, int m) {
        if (places < 2 || places > 8 || round < 8 || round > 200 || threshold < 1
                || threshold > round || slack < 0 || slack >= threshold || m < 1 || m > 12) {
            return -102;
        }
        if (came != 0) {
            return -103;
        }
        p = places;
        r = round;
        t = threshold;
        s = slack;
        counters = newCounters(m);
        split.clear();
        return 1;
    }

    int fold(int kind, boolean declared) {
        if (kind < 0 || kind > 7) {
            return -102;
        }
        if (came != 0 || !marks.isEmpty() || !split.isEmpty()) {
            return -103;
        }
        if (folds.size() == 6) {
            return -104;
        }
        folds.add(new Fold(kind, declared));
        return folds.size() - 1;
    }

    private List<List<Row>> partsOf(int key) {
        return split.containsKey(key) ? split.get(key) : List.of(whole.get(key));
    }

    int row(int key, int v) {
        if (noKey(key)) {
            return -101;
        }
        if (v < -1000 || v > 1000) {
            return -102;
        }
        if (came == 450) {
            return -104;
        }
        List<List<Row>> parts = partsOf(key);
        long spread = came * 0x9E3779B1L & 0xFFFFFFFFL;
        int part = (int) ((spread / 65536) % parts.size());
        parts.get(part).add(new Row(came, v));
        for (Small small : smalls) {
            if (small.key() == key) {
                matches++;
                out += (long) v * small.weight();
            }
        }
        came++;
        int at = place(key, part);
        done[at]++;
        count(key);
        ofRound++;
        if (ofRound == r) {
            endRound();
        }
        return at;
    }

    private Counter counterOf(int key) {
        for (Counter c : counters) {
            if (c.key == key) {
                return c;
            }
        }
        return null;
    }

    private Counter least() {
        Counter least = counters[0];
        for (Counter c : counters) {
            if (c.count < least.count) {
                least = c;
            }
        }
        return least;
    }

    private void count(int key) {
        Counter c = counterOf(key);
        if (c == null) {
            // An empty counter has the least count, 0, and the first one is found.
            c = least();
            c.error = c.count;
            c.key = key;
        }
        c.count++;
    }

    private int most(int key) {
        Counter c = counterOf(key);
        return c != null ? c.count : least().count;
    }

    private boolean canSplit() {
        return folds.stream().allMatch(f -> f.declared() && f.kind() < 6);
    }

    private void endRound() {
        for (Counter c : counters) {
            if (c.key >= 0 && c.count - c.error >= t && !split.containsKey(c.key)) {
                if (canSplit()) {
                    divide(c.key, Math.min(p, c.count / t + 1));
                    flips++;
                } else {
                    passed++;
                }
            }
        }
        for (int key : new ArrayList<>(split.keySet())) {
            if (most(key) < t - s) {
                back(key);
                flips++;
            }
        }
        counters = newCounters(counters.length);
        ofRound = 0;
        rounds++;
    }

    private void divide(int key, int q) {
        List<List<Row>> parts = new ArrayList<>();
        parts.add(whole.get(key));
        for (int i = 1; i < q; i++) {
            parts.add(new ArrayList<>());
        }
        split.put(key, parts);
    }

    private List<Row> rowsOf(int key) {
        List<Row> all = new ArrayList<>();
        for (List<Row> part : partsOf(key)) {
            all.addAll(part);
        }
        all.sort(Comparator.comparingInt(Row::n));
        return all;
    }

    private static long foldAll(int kind, List<Row> rows) {
        if (rows.isEmpty() && (kind == 2 || kind == 3 || kind == 5)) {
            return NOTHING;
        }
        switch (kind) {
            case 0:
                return rows.size();
            case 1:
                return rows.stream().mapToLong(Row::v).sum();
            case 2:
                return rows.stream().mapToLong(Row::v).min().getAsLong();
            case 3:
                return rows.stream().mapToLong(Row::v).max().getAsLong();
            case 4:
                return rows.stream().mapToLong(x -> 1L << ((x.v() + 1600) % 16))
                        .reduce(0, (a, b) -> a | b);
            case 5:
                return rows.get(rows.size() - 1).v();
            case 6:
                int chain = 7;
                for (Row row : rows) {
                    chain = chain * 31 + row.v();
                }
                return chain;
            default:
                int falls = 0;
                for (int i = 1; i < rows.size(); i++) {
                    falls += rows.get(i).v() < rows.get(i - 1).v() ? 1 : 0;
                }
                return falls;
        }
    }

    long state(int fold, int key) {
        if (noKey(key) || fold < 0 || fold >= folds.size()) {
            return NOTHING;
        }
        return foldAll(folds.get(fold).kind(), rowsOf(key));
    }

    long part(int fold, int key, int i) {
        if (noKey(key) || fold < 0 || fold >= folds.size() || i < 0 || i >= parts(key)) {
            return NOTHING;
        }
        return foldAll(folds.get(fold).kind(), partsOf(key).get(i));
    }

    int parts(int key) {
        return noKey(key) ? -101 : partsOf(key).size();
    }

    int place(int key, int i) {
        if (noKey(key)) {
            return -101;
        }
        return i < 0 || i >= parts(key) ? -1 : (key % p + i) % p;
    }

    int split(int key, int q) {
        if (noKey(key)) {
            return -101;
        }
        if (q < 2 || q > p) {
            return -102;
        }
        if (split.containsKey(key) || !canSplit()) {
            return -103;
        }
        divide(key, q);
        return 1;
    }

    int back(int key) {
        if (noKey(key)) {
            return -101;
        }
        if (!split.containsKey(key)) {
            return -103;
        }
        int carried = 0;
        List<List<Row>> parts = split.get(key);
        for (int i = 1; i < parts.size(); i++) {
            carried += parts.get(i).isEmpty() ? 0 : 1;
        }
        List<Row> all = rowsOf(key);
        split.remove(key);
        whole.set(key, all);
        moved += carried;
        return carried;
    }

    int tree(int key, int k) {
        if (noKey(key)) {
            return -101;
        }
        List<Integer> left = new ArrayList<>();
        for (int i = 0; i < parts(key); i++) {
            left.add(i);
        }
        List<Integer> joins = new ArrayList<>();
        while (left.size() > 1) {
            List<Integer> next = new ArrayList<>();
            for (int i = 0; i < left.size(); i += 2) {
                next.add(left.get(i));
                if (i + 1 < left.size()) {
                    joins.add(8 * left.get(i) + left.get(i + 1));
                }
            }
            left = next;
        }
        return k < 0 || k >= joins.size() ? -1 : joins.get(k);
    }

    int counter(int i, int what) {
        if (i < 0 || i >= counters.length || what < 0 || what > 2) {
            return -102;
        }
        Counter c = counters[i];
        return what == 0 ? c.key : what == 1 ? c.count : c.error;
    }

    int hot(int key) {
        if (noKey(key)) {
            return -101;
        }
        Counter c = counterOf(key);
        if (c != null && c.count - c.error >= t) {
            return 2;
        }
        return most(key) >= t ? 1 : 0;
    }

    int splitKey(int k) {
        List<Integer> keys = new ArrayList<>(split.keySet());
        return k < 0 || k >= keys.size() ? -1 : keys.get(k);
    }

    int load(int place) {
        return place < 0 || place >= p ? -101 : done[place];
    }

    int small(int key, int weight) {
        if (noKey(key)) {
            return -101;
        }
        if (weight < -1000 || weight > 1000) {
            return -102;
        }
        if (smalls.size() == 60) {
            return -104;
        }
        smalls.add(new Small(key, weight));
        return smalls.size();
    }

    int copies(int place) {
        if (place < 0 || place >= p) {
            return -101;
        }
        int lying = 0;
        for (Small small : smalls) {
            for (int i = 0; i < parts(small.key()); i++) {
                lying += place(small.key(), i) == place ? 1 : 0;
            }
        }
        return lying;
    }

    long out() {
        return out;
    }

    int timer(int key, int at) {
        if (noKey(key)) {
            return -101;
        }
        if (at <= time || at > 1000000) {
            return -102;
        }
        if (timers.size() == 40) {
            return -104;
        }
        timers.add(new Timer(key, at));
        return timers.size();
    }

    int tick(int to) {
        if (to < time || to > 1000000) {
            return -102;
        }
        time = to;
        List<Timer> due = new ArrayList<>(timers);
        due.removeIf(x -> x.time() > to);
        due.sort(Comparator.comparingInt(Timer::time));
        timers.removeIf(x -> x.time() <= to);
        for (Timer timer : due) {
            List<Long> states = new ArrayList<>();
            for (int i = 0; i < folds.size(); i++) {
                states.add(state(i, timer.key()));
            }
            rings.add(0, new Ring(timer.key(), timer.time(), states));
            if (rings.size() > 64) {
                rings.remove(64);
            }
            partsOf(timer.key()).forEach(List::clear);
        }
        return due.size();
    }

    long log(int i, int what) {
        if (i < 0 || i >= rings.size() || what < 0 || what > 7) {
            return NOTHING;
        }
        Ring ring = rings.get(i);
        if (what < 2) {
            return what == 0 ? ring.key() : ring.time();
        }
        return what - 2 < ring.states().size() ? ring.states().get(what - 2) : NOTHING;
    }

    int mark() {
        if (marks.size() == 4) {
            return -104;
        }
        List<List<Row>> rows = new ArrayList<>();
        for (int key = 0; key < 100; key++) {
            rows.add(rowsOf(key));
        }
        marks.add(new Held(rows, new ArrayList<>(smalls), new ArrayList<>(timers), time, came, out,
                matches));
        return marks.size() - 1;
    }

    int restore(int mark) {
        if (mark < 0 || mark >= marks.size()) {
            return -101;
        }
        Held held = marks.get(mark);
        split.clear();
        for (int key = 0; key < 100; key++) {
            whole.set(key, new ArrayList<>(held.rows().get(key)));
        }
        smalls = new ArrayList<>(held.smalls());
        timers = new ArrayList<>(held.timers());
        time = held.time();
        came = held.came();
        out = held.out();
        matches = held.matches();
        counters = newCounters(counters.length);
        rings.clear();
        ofRound = 0;
        done = new int[8];
        return came;
    }

    int told(int what) {
        int[] all = {came, ofRound, rounds, flips, passed, matches, moved, timers.size(), time,
            rings.size(), folds.size(), marks.size(), split.size(), smalls.size()};
        return what < 0 || what >= all.length ? -102 : all[what];
    }
}
