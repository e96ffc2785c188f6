/**
 * Runs of calls, drawn by a fixed row of numbers, must be answered as the model answers them. No
 * object is asked more than the 512 calls for which the document speaks.
 */
public final class ModelTest {
    private static final int RUNS = 20000;
    private static final int CALLS = 512;
    // A clear, with the shape and the folds that follow it, makes fewer calls than these.
    private static final int CALLS_OF_A_STEP = 16;
    private static final int KINDS_OF_STEPS = 24;

    private final Check check;
    private final int run;
    private final int keys;
    private final int wild;
    private final int rowsOfTen;
    private final int favourite;
    private final HotKeys object = new HotKeys();
    private long seed;
    private int calls;
    private Model y = new Model();

    private ModelTest(Check check, int run) {
        this.check = check;
        this.run = run;
        this.seed = run * 7919L + 17;
        this.keys = 1 + upTo(run % 3 == 0 ? 100 : 8);
        this.wild = run % 4 == 0 ? 10 : 60;
        this.rowsOfTen = run % 20 == 0 ? 10 : run % 2 == 0 ? 6 : 9;
        this.favourite = upTo(KINDS_OF_STEPS);
    }

    public static void main(String[] args) {
        Check check = new Check();
        for (int run = 0; run < RUNS; run++) {
            new ModelTest(check, run).go();
        }
        check.end();
    }

    private int upTo(int bound) {
        seed = seed * 6364136223846793005L + 1442695040888963407L;
        return (int) ((seed >>> 33) % bound);
    }

    private int between(int least, int most) {
        return least + upTo(most - least + 1);
    }

    /** Mostly within the bounds, now and then at an edge or far beyond. */
    private int number(int least, int most) {
        if (upTo(wild) > 0) {
            return between(least, most);
        }
        int[] odd = {least - 1, most + 1, Integer.MIN_VALUE, Integer.MAX_VALUE, least, most, -1};
        return odd[upTo(odd.length)];
    }

    private int key() {
        return upTo(wild) > 0 ? upTo(keys) : number(0, 99);
    }

    /** Mostly a time that comes soon, now and then one about the last of all. */
    private int time(int least, int most) {
        return upTo(80) > 0 ? number(least, most) : between(999998, 1000001);
    }

    /** The object, for one call. */
    private HotKeys x() {
        calls++;
        return object;
    }

    private void due(String call, long got, long want) {
        check.due("run " + run + ", call " + calls + ": " + call, got, want);
    }

    private void go() {
        int steps = between(20, CALLS - CALLS_OF_A_STEP);
        begin();
        while (calls < steps) {
            if (upTo(10) < rowsOfTen) {
                row();
            } else {
                other(upTo(3) == 0 ? favourite : upTo(KINDS_OF_STEPS));
            }
        }
        while (calls < CALLS) {
            ask(key());
        }
        check.due("calls of run " + run, calls, CALLS);
    }

    private void begin() {
        if (upTo(4) > 0) {
            shape();
        }
        boolean joined = upTo(3) > 0;
        int number = upTo(8);
        for (int i = 0; i < number; i++) {
            int kind = joined ? upTo(6) : number(0, 7);
            boolean declared = joined || upTo(4) > 0;
            due("fold(" + kind + ", " + declared + ")", x().fold(kind, declared),
                    y.fold(kind, declared));
        }
    }

    private void shape() {
        int p = number(2, 8);
        int r = upTo(3) == 0 ? number(8, 200) : number(8, 20);
        int t = upTo(3) == 0 ? number(1, Math.max(r, 1)) : number(1, 6);
        int s = number(0, Math.max(t - 1, 0));
        int m = number(1, 12);
        due("shape(" + p + ", " + r + ", " + t + ", " + s + ", " + m + ")",
                x().shape(p, r, t, s, m), y.shape(p, r, t, s, m));
    }

    private void row() {
        // The lesser of two draws, so that low keys are hot.
        int key = Math.min(key(), key());
        int v = upTo(2) == 0 ? number(-1000, 1000) : number(-3, 3);
        due("row(" + key + ", " + v + ")", x().row(key, v), y.row(key, v));
    }

    private void other(int step) {
        int key = key();
        switch (step) {
            case 0:
            case 1:
            case 2:
                int q = number(2, 8);
                due("split(" + key + ", " + q + ")", x().split(key, q), y.split(key, q));
                break;
            case 3:
            case 4:
                due("back(" + key + ")", x().back(key), y.back(key));
                break;
            case 5:
            case 6:
                int weight = number(-1000, 1000);
                due("small(" + key + ", " + weight + ")", x().small(key, weight),
                        y.small(key, weight));
                break;
            case 7:
            case 8:
            case 9:
                int time = time(y.told(8) - 1, y.told(8) + 20);
                due("timer(" + key + ", " + time + ")", x().timer(key, time), y.timer(key, time));
                break;
            case 10:
                int to = time(y.told(8), y.told(8) + 10);
                due("tick(" + to + ")", x().tick(to), y.tick(to));
                break;
            case 11:
                if (upTo(3) == 0) {
                    due("mark()", x().mark(), y.mark());
                }
                break;
            case 12:
                int mark = number(0, 3);
                if (upTo(4) == 0) {
                    due("restore(" + mark + ")", x().restore(mark), y.restore(mark));
                }
                break;
            case 13:
                if (upTo(20) == 0) {
                    due("clear()", x().clear(), y.told(0));
                    y = new Model();
                    begin();
                }
                break;
            case 14:
                shape();
                break;
            case 15:
                int kind = number(0, 7);
                due("fold(" + kind + ")", x().fold(kind, true), y.fold(kind, true));
                break;
            default:
                ask(key);
        }
    }

    private void ask(int key) {
        int fold = number(0, Math.max(y.told(10), 1));
        int i = number(0, Math.max(y.parts(key), 1));
        switch (upTo(13)) {
            case 0:
                due("state(" + fold + ", " + key + ")", x().state(fold, key), y.state(fold, key));
                break;
            case 1:
                due("part(" + fold + ", " + key + ", " + i + ")", x().part(fold, key, i),
                        y.part(fold, key, i));
                break;
            case 2:
                due("parts(" + key + ")", x().parts(key), y.parts(key));
                break;
            case 3:
                due("place(" + key + ", " + i + ")", x().place(key, i), y.place(key, i));
                break;
            case 4:
                due("tree(" + key + ", " + i + ")", x().tree(key, i), y.tree(key, i));
                break;
            case 5:
                due("hot(" + key + ")", x().hot(key), y.hot(key));
                break;
            default:
                askOfAll();
        }
    }

    private void askOfAll() {
        switch (upTo(7)) {
            case 0:
                int i = number(0, 12);
                int of = number(0, 2);
                due("counter(" + i + ", " + of + ")", x().counter(i, of), y.counter(i, of));
                break;
            case 1:
                int k = number(0, Math.max(y.told(12), 1));
                due("splitKey(" + k + ")", x().splitKey(k), y.splitKey(k));
                break;
            case 2:
                int place = number(0, 7);
                due("load(" + place + ")", x().load(place), y.load(place));
                break;
            case 3:
                int at = number(0, 7);
                due("copies(" + at + ")", x().copies(at), y.copies(at));
                break;
            case 4:
                due("out()", x().out(), y.out());
                break;
            case 5:
                int line = number(0, Math.max(y.told(9), 1));
                int what = number(0, 7);
                due("log(" + line + ", " + what + ")", x().log(line, what), y.log(line, what));
                break;
            default:
                int told = number(0, 13);
                due("told(" + told + ")", x().told(told), y.told(told));
        }
    }
}
