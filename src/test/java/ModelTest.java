/** Runs of calls, drawn by a fixed row of numbers, must be answered as the model answers them. */
public final class ModelTest {
    private static final int RUNS = 1500;
    private static final int CALLS = 512;

    private final Check check;
    private final int run;
    private final int keys;
    private final int wild;
    private long seed;
    private HotKeys x = new HotKeys();
    private Model y = new Model();

    private ModelTest(Check check, int run) {
        this.check = check;
        this.run = run;
        this.seed = run * 7919L + 17;
        this.keys = 1 + upTo(run % 3 == 0 ? 100 : 8);
        this.wild = run % 4 == 0 ? 10 : 60;
    }

    public static void main(String[] args) {
        Check check = new Check();
        for (int run = 0; run < RUNS; run++) {
            new ModelTest(check, run).go();
        }
        check.end();
    }

    private int upTo(int bound) {
        seed = seed * 6364136223846793005L + 1442695040888963407L;
        return (int) ((seed >>> 33) % bound);
    }

    private int between(int least, int most) {
        return least + upTo(most - least + 1);
    }

    /** Mostly within the bounds, now and then at an edge or far beyond. */
    private int number(int least, int most) {
        if (upTo(wild) > 0) {
            return between(least, most);
        }
        int[] odd = {least - 1, most + 1, Integer.MIN_VALUE, Integer.MAX_VALUE, least, most, -1};
        return odd[upTo(odd.length)];
    }

    private int key() {
        return upTo(wild) > 0 ? upTo(keys) : number(0, 99);
    }

    private void due(String call, long got, long want) {
        check.due("run " + run + ": " + call, got, want);
    }

    private void go() {
        begin();
        for (int i = 0; i < CALLS; i++) {
            if (run % 2 == 0 ? upTo(10) < 6 : upTo(10) < 9) {
                row();
            } else {
                other();
            }
            if (i % 64 == 63) {
                compareAll();
            }
        }
    }

    private void begin() {
        if (upTo(4) > 0) {
            shape();
        }
        boolean joined = upTo(3) > 0;
        int number = upTo(8);
        for (int i = 0; i < number; i++) {
            int kind = joined ? upTo(6) : number(0, 7);
            boolean declared = joined || upTo(4) > 0;
            due("fold(" + kind + ", " + declared + ")", x.fold(kind, declared),
                    y.fold(kind, declared));
        }
    }

    private void shape() {
        int p = number(2, 8);
        int r = upTo(3) == 0 ? number(8, 200) : number(8, 20);
        int t = upTo(3) == 0 ? number(1, Math.max(r, 1)) : number(1, 6);
        int s = number(0, Math.max(t - 1, 0));
        int m = number(1, 12);
        due("shape(" + p + ", " + r + ", " + t + ", " + s + ", " + m + ")",
                x.shape(p, r, t, s, m), y.shape(p, r, t, s, m));
    }

    private void row() {
        // The lesser of two draws, so that low keys are hot.
        int key = Math.min(key(), key());
        int v = upTo(2) == 0 ? number(-1000, 1000) : number(-3, 3);
        due("row(" + key + ", " + v + ")", x.row(key, v), y.row(key, v));
    }

    private void other() {
        int key = key();
        switch (upTo(24)) {
            case 0:
            case 1:
            case 2:
                int q = number(2, 8);
                due("split(" + key + ", " + q + ")", x.split(key, q), y.split(key, q));
                break;
            case 3:
            case 4:
                due("back(" + key + ")", x.back(key), y.back(key));
                break;
            case 5:
            case 6:
                int weight = number(-1000, 1000);
                due("small(" + key + ", " + weight + ")", x.small(key, weight),
                        y.small(key, weight));
                break;
            case 7:
            case 8:
            case 9:
                int time = number(y.told(8) - 1, y.told(8) + 20);
                due("timer(" + key + ", " + time + ")", x.timer(key, time), y.timer(key, time));
                break;
            case 10:
                int to = number(y.told(8), y.told(8) + 10);
                due("tick(" + to + ")", x.tick(to), y.tick(to));
                break;
            case 11:
                if (upTo(3) == 0) {
                    due("mark()", x.mark(), y.mark());
                }
                break;
            case 12:
                int mark = number(0, 3);
                if (upTo(4) == 0) {
                    due("restore(" + mark + ")", x.restore(mark), y.restore(mark));
                }
                break;
            case 13:
                if (upTo(20) == 0) {
                    due("clear()", x.clear(), y.told(0));
                    y = new Model();
                    begin();
                }
                break;
            case 14:
                shape();
                break;
            case 15:
                int kind = number(0, 7);
                due("fold(" + kind + ")", x.fold(kind, true), y.fold(kind, true));
                break;
            default:
                ask(key);
        }
    }

    private void ask(int key) {
        int fold = number(0, 5);
        int i = number(0, 8);
        int what = number(0, 14);
        int line = number(0, 64);
        due("state(" + fold + ", " + key + ")", x.state(fold, key), y.state(fold, key));
        due("part(" + fold + ", " + key + ", " + i + ")", x.part(fold, key, i),
                y.part(fold, key, i));
        due("parts(" + key + ")", x.parts(key), y.parts(key));
        due("place(" + key + ", " + i + ")", x.place(key, i), y.place(key, i));
        due("tree(" + key + ", " + i + ")", x.tree(key, i), y.tree(key, i));
        due("counter(" + i + ", " + fold + ")", x.counter(i, fold), y.counter(i, fold));
        due("hot(" + key + ")", x.hot(key), y.hot(key));
        due("splitKey(" + i + ")", x.splitKey(i), y.splitKey(i));
        due("load(" + i + ")", x.load(i), y.load(i));
        due("copies(" + i + ")", x.copies(i), y.copies(i));
        due("out()", x.out(), y.out());
        due("log(" + line + ", " + i + ")", x.log(line, i), y.log(line, i));
        due("told(" + what + ")", x.told(what), y.told(what));
    }

    private void compareAll() {
        for (int i = -1; i <= 14; i++) {
            due("told(" + i + ")", x.told(i), y.told(i));
            due("load(" + i + ")", x.load(i), y.load(i));
            due("copies(" + i + ")", x.copies(i), y.copies(i));
            due("splitKey(" + i + ")", x.splitKey(i), y.splitKey(i));
            for (int what = 0; what < 3; what++) {
                due("counter(" + i + ", " + what + ")", x.counter(i, what), y.counter(i, what));
            }
        }
        due("out()", x.out(), y.out());
        for (int i = 0; i <= 64; i++) {
            for (int what = 0; what < 8; what++) {
                due("log(" + i + ", " + what + ")", x.log(i, what), y.log(i, what));
            }
        }
        for (int key = -1; key <= 100; key++) {
            compareKey(key);
        }
    }

    private void compareKey(int key) {
        due("parts(" + key + ")", x.parts(key), y.parts(key));
        due("hot(" + key + ")", x.hot(key), y.hot(key));
        int parts = Math.max(y.parts(key), 0);
        for (int i = 0; i <= parts; i++) {
            due("place(" + key + ", " + i + ")", x.place(key, i), y.place(key, i));
            due("tree(" + key + ", " + i + ")", x.tree(key, i), y.tree(key, i));
            for (int fold = 0; fold < 6; fold++) {
                due("part(" + fold + ", " + key + ", " + i + ")", x.part(fold, key, i),
                        y.part(fold, key, i));
            }
        }
        for (int fold = 0; fold < 6; fold++) {
            due("state(" + fold + ", " + key + ")", x.state(fold, key), y.state(fold, key));
        }
    }
}
