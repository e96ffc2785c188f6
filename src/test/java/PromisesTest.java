/** At least one test for each promise: ordinary inputs, edges, wrong inputs. */
public final class PromisesTest {
    private static final long NOTHING = -4000000000000L;
    private static final int NONE = HotKeys.NONE;
    private static final int UNKNOWN = HotKeys.UNKNOWN;
    private static final int OUTSIDE = HotKeys.OUTSIDE;
    private static final int STATE = HotKeys.STATE;
    private static final int ROOM = HotKeys.ROOM;
    private static final int[] BAD_KEYS = {-1, 100, Integer.MIN_VALUE, Integer.MAX_VALUE};

    private static final Check check = new Check();

    private static void due(String call, long got, long want) {
        check.due(call, got, want);
    }

    public static void main(String[] args) {
        promise1NewObject();
        promise2Shape();
        promise3Fold();
        promise4Row();
        promise4Kinds();
        promise5State();
        promise6Part();
        promise7Parts();
        promise8Place();
        promise9Split();
        promise10Back();
        promise10LastKeyInMostParts();
        promise11Tree();
        promise12Counter();
        promise13Hot();
        promise13RoundSplits();
        promise13RoundJoinsBack();
        promise13RoundPassesOver();
        promise14SplitKey();
        promise15Load();
        promise16Small();
        promise17Copies();
        promise18Out();
        promise19Timer();
        promise20Tick();
        promise21Log();
        promise21LogKeepsTheLatest();
        promise22Mark();
        promise23Restore();
        promise23RestoreFoldsGoOn();
        promise23RestoreBringsAllKeys();
        promise23RestoreSmallRows();
        promise23RestoreForgets();
        promise24Told();
        promise25Clear();
        check.end();
    }

    private static void isNew(String when, HotKeys x) {
        for (int what = 0; what <= 13; what++) {
            due(when + " told(" + what + ")", x.told(what), 0);
        }
        for (int place = 0; place < 4; place++) {
            due(when + " load", x.load(place), 0);
            due(when + " copies", x.copies(place), 0);
        }
        due(when + " load(4)", x.load(4), UNKNOWN);
        for (int key = 0; key < 100; key++) {
            due(when + " parts", x.parts(key), 1);
            due(when + " place", x.place(key, 0), key % 4);
            due(when + " hot", x.hot(key), 0);
        }
        for (int i = 0; i < 4; i++) {
            due(when + " counter key", x.counter(i, 0), NONE);
            due(when + " counter count", x.counter(i, 1), 0);
            due(when + " counter error", x.counter(i, 2), 0);
        }
        due(when + " counter(4, 0)", x.counter(4, 0), OUTSIDE);
        due(when + " out", x.out(), 0);
        due(when + " state", x.state(0, 0), NOTHING);
        due(when + " log", x.log(0, 0), NOTHING);
        due(when + " restore", x.restore(0), UNKNOWN);
        due(when + " splitKey", x.splitKey(0), NONE);
    }

    private static void promise1NewObject() {
        isNew("a new object", new HotKeys());
        HotKeys x = new HotKeys();
        // The first shape is 4, 32, 8, 2, 4.
        for (int i = 0; i < 7; i++) {
            x.row(9, 1);
        }
        due("7 of 8", x.hot(9), 0);
        x.row(9, 1);
        due("8 of 8", x.hot(9), 2);
        for (int i = 8; i < 31; i++) {
            x.row(9, 1);
        }
        due("31 rows", x.told(2), 0);
        x.row(9, 1);
        due("32 rows", x.told(2), 1);
        due("32 / 8 + 1, but 4 places", x.parts(9), 4);
        for (int i = 0; i < 6; i++) {
            x.row(9, 1);
        }
        for (int i = 0; i < 26; i++) {
            x.row(10, 1);
        }
        due("6 rows are not less than 8 - 2", x.parts(9), 4);
        for (int i = 0; i < 5; i++) {
            x.row(9, 1);
        }
        for (int i = 0; i < 27; i++) {
            x.row(10, 1);
        }
        due("5 rows are less than 8 - 2", x.parts(9), 1);
    }

    private static void promise2Shape() {
        HotKeys x = new HotKeys();
        due("places 1", x.shape(1, 8, 1, 0, 1), OUTSIDE);
        due("places 9", x.shape(9, 8, 1, 0, 1), OUTSIDE);
        due("round 7", x.shape(2, 7, 1, 0, 1), OUTSIDE);
        due("round 201", x.shape(2, 201, 1, 0, 1), OUTSIDE);
        due("threshold 0", x.shape(2, 8, 0, 0, 1), OUTSIDE);
        due("threshold above round", x.shape(2, 8, 9, 0, 1), OUTSIDE);
        due("slack -1", x.shape(2, 8, 1, -1, 1), OUTSIDE);
        due("slack not below threshold", x.shape(2, 8, 3, 3, 1), OUTSIDE);
        due("counters 0", x.shape(2, 8, 1, 0, 0), OUTSIDE);
        due("counters 13", x.shape(2, 8, 1, 0, 13), OUTSIDE);
        due("lowest threshold", x.shape(2, 8, Integer.MIN_VALUE, 0, 1), OUTSIDE);
        due("nothing changed", x.load(3), 0);
        due("least", x.shape(2, 8, 1, 0, 1), 1);
        due("place 1 is", x.load(1), 0);
        due("place 2 is not", x.load(2), UNKNOWN);
        due("counter 1 is not", x.counter(1, 0), OUTSIDE);
        due("greatest", x.shape(8, 200, 200, 199, 12), 1);
        due("place 7 is", x.load(7), 0);
        due("counter 11 is", x.counter(11, 0), NONE);
        due("home", x.place(15, 0), 7);
        due("split", x.split(15, 8), 1);
        due("a shape while split", x.shape(3, 8, 3, 1, 2), 1);
        due("one again", x.parts(15), 1);
        due("none moved", x.told(6), 0);
        due("none flipped", x.told(3), 0);
        due("home of three", x.place(15, 0), 0);
        x.small(5, 1);
        x.timer(5, 9);
        due("a shape with small rows", x.shape(4, 8, 3, 1, 2), 1);
        due("small rows stay", x.copies(1), 1);
        due("timers stay", x.told(7), 1);
        x.row(0, 0);
        due("rows came", x.shape(3, 8, 3, 1, 2), STATE);
        due("OUTSIDE ahead of STATE", x.shape(1, 8, 3, 1, 2), OUTSIDE);
        due("the shape stays", x.load(3), 0);
        HotKeys y = new HotKeys();
        y.mark();
        y.row(0, 0);
        y.restore(0);
        due("no rows came after a restore", y.shape(3, 8, 3, 1, 2), 1);
    }

    private static void promise3Fold() {
        HotKeys x = new HotKeys();
        due("kind -1", x.fold(-1, true), OUTSIDE);
        due("kind 8", x.fold(8, true), OUTSIDE);
        due("no fold yet", x.told(10), 0);
        for (int i = 0; i < 6; i++) {
            due("fold " + i, x.fold(i, true), i);
        }
        due("a seventh", x.fold(0, true), ROOM);
        due("OUTSIDE ahead of ROOM", x.fold(8, true), OUTSIDE);
        x.mark();
        due("STATE ahead of ROOM", x.fold(0, true), STATE);
        due("six", x.told(10), 6);
        HotKeys y = new HotKeys();
        y.split(3, 2);
        due("a key is split", y.fold(0, true), STATE);
        due("OUTSIDE ahead of STATE", y.fold(9, true), OUTSIDE);
        y.back(3);
        due("none is split", y.fold(0, true), 0);
        due("empty", y.state(0, 99), 0);
        y.row(3, 1);
        due("rows came", y.fold(0, true), STATE);
        HotKeys z = new HotKeys();
        z.mark();
        due("a mark", z.fold(0, true), STATE);
    }

    private static void promise4Row() {
        HotKeys x = new HotKeys();
        x.fold(0, true);
        for (int key : BAD_KEYS) {
            due("key " + key, x.row(key, 0), UNKNOWN);
        }
        due("UNKNOWN ahead of OUTSIDE", x.row(100, 1001), UNKNOWN);
        due("value 1001", x.row(0, 1001), OUTSIDE);
        due("value -1001", x.row(0, -1001), OUTSIDE);
        due("no row came", x.told(0), 0);
        due("nothing folded", x.state(0, 0), 0);
        due("greatest value", x.row(99, 1000), 3);
        due("least value", x.row(98, -1000), 2);
        for (int i = 2; i < 450; i++) {
            due("row " + i, x.row(i % 100, 0), i % 100 % 4);
        }
        due("row 450", x.row(0, 0), ROOM);
        due("OUTSIDE ahead of ROOM", x.row(0, 1001), OUTSIDE);
        due("450 came", x.told(0), 450);
        due("of key 0", x.state(0, 0), 4);
        HotKeys y = new HotKeys();
        y.shape(8, 200, 200, 0, 12);
        y.split(6, 8);
        int[] parts = {0, 7, 6, 6, 5, 5, 4, 4, 3, 3, 2, 2, 1, 1, 0, 0, 7, 7, 6, 6, 5, 4, 4, 3};
        for (int n = 0; n < parts.length; n++) {
            due("part of row " + n, y.row(6, 0), (6 + parts[n]) % 8);
        }
    }

    private static HotKeys withFolds(int... kinds) {
        HotKeys x = new HotKeys();
        for (int kind : kinds) {
            x.fold(kind, true);
        }
        return x;
    }

    private static void promise4Kinds() {
        HotKeys x = withFolds(0, 1, 2, 3, 4, 5);
        HotKeys y = withFolds(6, 7);
        long[] empty = {0, 0, NOTHING, NOTHING, 0, NOTHING, 7, 0};
        long[][] after = {
            {1, 5, 5, 5, 1 << 5, 5, 222, 0},
            {2, 2, -3, 5, 1 << 5 | 1 << 13, -3, 6879, 1},
            {3, 2, -3, 5, 1 << 5 | 1 << 13 | 1, 0, 213249, 1},
            {4, 18, -3, 16, 1 << 5 | 1 << 13 | 1, 16, 6610735, 1},
            {5, 34, -3, 16, 1 << 5 | 1 << 13 | 1, 16, 204932801, 1},
            {6, -966, -1000, 16, 1 << 5 | 1 << 13 | 1 | 1 << 8, -1000, 2057948535, 2},
            {7, 34, -1000, 1000, 1 << 5 | 1 << 13 | 1 | 1 << 8, 1000, -628103855, 2},
        };
        int[] values = {5, -3, 0, 16, 16, -1000, 1000};
        for (int kind = 0; kind < 8; kind++) {
            due("empty " + kind, kind < 6 ? x.state(kind, 7) : y.state(kind - 6, 7), empty[kind]);
        }
        for (int i = 0; i < values.length; i++) {
            x.row(7, values[i]);
            x.row(8, 1 - values[i]);
            y.row(7, values[i]);
            y.row(8, 1 - values[i]);
            for (int kind = 0; kind < 8; kind++) {
                long got = kind < 6 ? x.state(kind, 7) : y.state(kind - 6, 7);
                due("kind " + kind + " after " + (i + 1) + " rows", got, after[i][kind]);
            }
        }
    }

    private static void promise5State() {
        HotKeys x = withFolds(0, 1, 2, 3, 4, 5);
        due("empty count", x.state(0, 9), 0);
        due("empty last", x.state(5, 9), NOTHING);
        due("no such fold", x.state(6, 9), NOTHING);
        due("fold -1", x.state(-1, 9), NOTHING);
        for (int key : BAD_KEYS) {
            due("key " + key, x.state(0, key), NOTHING);
        }
        x.split(9, 4);
        for (int i = 0; i < 6; i++) {
            due("empty in four parts", x.state(i, 9), i == 0 || i == 1 || i == 4 ? 0 : NOTHING);
        }
        // Parts 0, 3, 2, 2, 1: the last row is of part 1, behind which two others are joined.
        int[] values = {4, 9, -7, 3, 6};
        for (int v : values) {
            x.row(9, v);
        }
        due("count", x.state(0, 9), 5);
        due("sum", x.state(1, 9), 15);
        due("least", x.state(2, 9), -7);
        due("greatest", x.state(3, 9), 9);
        due("set", x.state(4, 9), 1 << 4 | 1 << 9 | 1 << 9 | 1 << 3 | 1 << 6);
        due("last", x.state(5, 9), 6);
        due("another key", x.state(0, 13), 0);
        HotKeys y = withFolds(2, 3);
        y.split(0, 4);
        y.row(1, 0);
        y.row(0, -5);
        due("least with empty parts", y.state(0, 0), -5);
        due("greatest with empty parts", y.state(1, 0), -5);
    }

    private static void promise6Part() {
        HotKeys x = withFolds(0, 5);
        x.row(9, 4);
        due("part 0 of one", x.part(0, 9, 0), 1);
        due("part 1 of one", x.part(0, 9, 1), NOTHING);
        x.split(9, 4);
        due("part 0 as it is", x.part(0, 9, 0), 1);
        due("part 0 last", x.part(1, 9, 0), 4);
        due("part 1 empty", x.part(0, 9, 1), 0);
        due("part 1 last", x.part(1, 9, 1), NOTHING);
        due("part 4 is not", x.part(0, 9, 4), NOTHING);
        due("part -1 is not", x.part(0, 9, -1), NOTHING);
        due("no such fold", x.part(2, 9, 0), NOTHING);
        due("fold -1", x.part(-1, 9, 0), NOTHING);
        for (int key : BAD_KEYS) {
            due("key " + key, x.part(0, key, 0), NOTHING);
        }
        x.row(9, 5);
        x.row(9, 6);
        x.row(9, 7);
        due("part 3", x.part(0, 9, 3), 1);
        due("part 3 last", x.part(1, 9, 3), 5);
        due("part 2", x.part(0, 9, 2), 2);
        due("part 2 last", x.part(1, 9, 2), 7);
        due("part 0", x.part(0, 9, 0), 1);
        x.back(9);
        due("all in one", x.part(0, 9, 0), 4);
        due("the latest in one", x.part(1, 9, 0), 7);
        x.split(9, 3);
        due("new parts are empty", x.part(0, 9, 2), 0);
        due("also of last", x.part(1, 9, 2), NOTHING);
    }

    private static void promise7Parts() {
        HotKeys x = new HotKeys();
        due("one", x.parts(99), 1);
        x.split(99, 3);
        due("three", x.parts(99), 3);
        due("another", x.parts(98), 1);
        for (int key : BAD_KEYS) {
            due("key " + key, x.parts(key), UNKNOWN);
        }
    }

    private static void promise8Place() {
        HotKeys x = new HotKeys();
        due("home", x.place(6, 0), 2);
        due("one alone", x.place(6, 1), NONE);
        x.split(6, 3);
        due("part 0", x.place(6, 0), 2);
        due("part 1", x.place(6, 1), 3);
        due("part 2", x.place(6, 2), 0);
        due("part 3", x.place(6, 3), NONE);
        due("part -1", x.place(6, -1), NONE);
        for (int key : BAD_KEYS) {
            due("key " + key, x.place(key, 0), UNKNOWN);
        }
    }

    private static void promise9Split() {
        HotKeys x = withFolds(0);
        due("q 1", x.split(6, 1), OUTSIDE);
        due("q 5", x.split(6, 5), OUTSIDE);
        due("UNKNOWN ahead of OUTSIDE", x.split(100, 1), UNKNOWN);
        for (int key : BAD_KEYS) {
            due("key " + key, x.split(key, 2), UNKNOWN);
        }
        due("still one", x.parts(6), 1);
        due("two", x.split(6, 2), 1);
        due("four", x.split(7, 4), 1);
        due("it is split", x.split(6, 2), STATE);
        due("OUTSIDE ahead of STATE", x.split(6, 5), OUTSIDE);
        due("it stays", x.parts(6), 2);
        due("no flip", x.told(3), 0);
        for (int kind = 0; kind < 8; kind++) {
            HotKeys y = withFolds(kind);
            due("kind " + kind, y.split(1, 2), kind < 6 ? 1 : STATE);
            HotKeys z = withFolds(0);
            z.fold(kind, false);
            due("not declared " + kind, z.split(1, 2), STATE);
            due("not passed over", z.told(4), 0);
        }
    }

    private static void promise10Back() {
        HotKeys x = withFolds(1, 5);
        for (int key : BAD_KEYS) {
            due("key " + key, x.back(key), UNKNOWN);
        }
        due("it is one", x.back(9), STATE);
        x.split(9, 4);
        due("no rows", x.back(9), 0);
        x.split(9, 4);
        x.row(9, 0);
        due("a row of part 0", x.back(9), 0);
        x.split(9, 4);
        x.row(9, 0);
        x.row(9, 0);
        x.row(9, 3);
        due("rows of parts 3 and 2, some of 0", x.back(9), 2);
        due("joined", x.state(0, 9), 3);
        due("one", x.parts(9), 1);
        due("moved", x.told(6), 2);
        due("no flip", x.told(3), 0);
        x.split(9, 4);
        due("new parts have no rows", x.back(9), 0);
        x.split(9, 4);
        x.row(9, 1);
        x.row(8, 1);
        x.timer(9, 5);
        x.tick(5);
        due("a timer rang", x.back(9), 0);
        due("moved", x.told(6), 2);
        x.split(9, 4);
        x.row(9, 8);
        x.timer(8, 6);
        x.tick(6);
        x.back(9);
        due("part 0 or not", x.state(1, 9), 8);
        HotKeys y = new HotKeys();
        y.split(9, 4);
        y.row(9, 0);
        y.row(9, 0);
        due("without folds", y.back(9), 1);
        HotKeys w = withFolds(0);
        w.split(9, 4);
        rowsOf(w, 9, 8);
        due("all parts", w.back(9), 3);
        w.split(9, 2);
        due("parts that were there before", w.back(9), 0);
        due("all rows", w.state(0, 9), 8);
        HotKeys z = withFolds(5);
        z.split(1, 2);
        z.row(1, 10);
        z.row(1, 11);
        z.back(1);
        z.split(1, 2);
        due("the later row leads", z.state(0, 1), 11);
        z.row(1, 12);
        z.row(1, 13);
        z.row(1, 14);
        due("the later row leads again", z.state(0, 1), 14);
    }

    private static void promise10LastKeyInMostParts() {
        HotKeys x = withFolds(0, 1, 2, 3, 4, 5);
        x.shape(8, 200, 200, 0, 12);
        due("split", x.split(99, 8), 1);
        for (int v = 0; v < 16; v++) {
            x.row(99, v);
        }
        due("a mark", x.mark(), 0);
        due("moved", x.back(99), 7);
        due("set", x.state(4, 99), 65535);
        due("last", x.state(5, 99), 15);
        due("split again", x.split(99, 8), 1);
        x.timer(99, 1);
        due("a timer", x.tick(1), 1);
        due("count", x.log(0, 2), 16);
        due("last", x.log(0, 7), 15);
        due("restored", x.restore(0), 16);
        due("sum", x.state(1, 99), 120);
        due("last", x.state(5, 99), 15);
    }

    private static void promise11Tree() {
        int[][] joins = {
            {}, {},
            {1},
            {1, 2},
            {1, 19, 2},
            {1, 19, 2, 4},
            {1, 19, 37, 2, 4},
            {1, 19, 37, 2, 38, 4},
            {1, 19, 37, 55, 2, 38, 4},
        };
        HotKeys x = new HotKeys();
        x.shape(8, 8, 1, 0, 1);
        for (int q = 1; q <= 8; q++) {
            if (q > 1) {
                x.split(q, q);
            }
            for (int k = 0; k < joins[q].length; k++) {
                due("join " + k + " of " + q, x.tree(q, k), joins[q][k]);
            }
            due("behind the last of " + q, x.tree(q, joins[q].length), NONE);
            due("far behind", x.tree(q, Integer.MAX_VALUE), NONE);
            due("-1", x.tree(q, -1), NONE);
        }
        for (int key : BAD_KEYS) {
            due("key " + key, x.tree(key, 0), UNKNOWN);
        }
    }

    private static void promise12Counter() {
        HotKeys x = new HotKeys();
        x.shape(4, 32, 8, 2, 3);
        due("i -1", x.counter(-1, 0), OUTSIDE);
        due("i 3", x.counter(3, 0), OUTSIDE);
        due("what -1", x.counter(0, -1), OUTSIDE);
        due("what 3", x.counter(0, 3), OUTSIDE);
        int[] keys = {5, 6, 5, 7, 6, 7, 8, 8, 9};
        for (int key : keys) {
            x.row(key, 0);
        }
        // 5, 6, 7 have 2 each; 8 takes the first one: 3, then 4; 9 takes that of 6.
        int[][] want = {{8, 4, 2}, {9, 3, 2}, {7, 2, 0}};
        for (int i = 0; i < 3; i++) {
            for (int what = 0; what < 3; what++) {
                due("counter(" + i + ", " + what + ")", x.counter(i, what), want[i][what]);
            }
        }
        x.row(4, 0);
        due("the least one", x.counter(2, 0), 4);
        due("its count", x.counter(2, 1), 3);
        due("its error", x.counter(2, 2), 2);
        for (int i = 10; i < 32; i++) {
            x.row(4, 0);
        }
        due("empty when the round ends", x.counter(2, 0), NONE);
        due("count of an empty one", x.counter(2, 1), 0);
        due("error of an empty one", x.counter(2, 2), 0);
        due("error of the first one", x.counter(0, 2), 0);
        due("count of the first one", x.counter(0, 1), 0);
    }

    private static void promise13Hot() {
        HotKeys x = new HotKeys();
        x.shape(4, 32, 3, 0, 2);
        for (int key : BAD_KEYS) {
            due("key " + key, x.hot(key), UNKNOWN);
        }
        x.row(1, 0);
        x.row(1, 0);
        due("twice", x.hot(1), 0);
        x.row(1, 0);
        due("surely", x.hot(1), 2);
        due("one is empty", x.hot(9), 0);
        x.row(2, 0);
        x.row(2, 0);
        due("least is 2", x.hot(9), 0);
        x.row(3, 0);
        due("count 3, error 2", x.hot(3), 1);
        due("least is 3", x.hot(9), 1);
        due("it lost its counter", x.hot(2), 1);
        x.row(3, 0);
        x.row(3, 0);
        due("count 5, error 2", x.hot(3), 2);
    }

    private static void rowsOf(HotKeys x, int key, int number) {
        for (int i = 0; i < number; i++) {
            x.row(key, 1);
        }
    }

    private static void promise13RoundSplits() {
        HotKeys x = withFolds(0);
        x.shape(8, 20, 3, 0, 4);
        rowsOf(x, 1, 3);
        rowsOf(x, 2, 5);
        rowsOf(x, 3, 6);
        rowsOf(x, 4, 2);
        rowsOf(x, 5, 1);
        // Key 5 took the counter of 4: 3 with error 2.
        rowsOf(x, 5, 2);
        due("count of 5", x.counter(3, 1), 5);
        due("no round yet", x.told(12), 0);
        rowsOf(x, 5, 1);
        due("3 / 3 + 1", x.parts(1), 2);
        due("5 / 3 + 1", x.parts(2), 2);
        due("6 / 3 + 1", x.parts(3), 3);
        due("lost its counter", x.parts(4), 1);
        due("count 6, error 2, came 4", x.parts(5), 3);
        due("flips", x.told(3), 4);
        due("rounds", x.told(2), 1);
        due("rows of the round", x.told(1), 0);
        due("part 0 has all", x.part(0, 3, 0), 6);
        HotKeys y = withFolds(0);
        y.shape(2, 8, 3, 0, 1);
        rowsOf(y, 7, 6);
        rowsOf(y, 8, 2);
        due("count 8, error 6", y.parts(8), 1);
        due("none", y.told(3), 0);
        rowsOf(y, 7, 8);
        due("8 / 3 + 1, but 2 places", y.parts(7), 2);
        rowsOf(y, 7, 8);
        due("split already", y.told(3), 1);
    }

    private static void promise13RoundJoinsBack() {
        HotKeys x = withFolds(0, 5);
        x.shape(4, 10, 5, 2, 2);
        x.split(1, 4);
        x.split(2, 4);
        x.split(50, 4);
        rowsOf(x, 1, 3);
        rowsOf(x, 2, 2);
        rowsOf(x, 2, 5);
        due("3 is not less than 5 - 2", x.parts(1), 4);
        due("split", x.parts(2), 4);
        due("least count is 3", x.parts(50), 4);
        due("none flipped", x.told(3), 0);
        rowsOf(x, 1, 2);
        rowsOf(x, 2, 8);
        due("2 is less", x.parts(1), 1);
        due("least count is 2", x.parts(50), 1);
        due("two backs", x.told(3), 2);
        // Rows 0, 1, 2 and 10, 11 of key 1: parts 0, 3, 2, 2, 2.
        due("moved by the round", x.told(6), 2);
        due("all rows in one", x.part(0, 1, 0), 5);
        x.split(50, 2);
        x.split(0, 2);
        x.split(99, 2);
        due("key 0 is counted too", x.told(12), 4);
        rowsOf(x, 2, 10);
        due("one is empty: 0", x.parts(50), 1);
        due("the least key", x.parts(0), 1);
        due("the greatest key", x.parts(99), 1);
        due("five backs", x.told(3), 5);
    }

    private static void promise13RoundPassesOver() {
        HotKeys x = new HotKeys();
        x.fold(0, false);
        x.shape(4, 8, 3, 0, 3);
        rowsOf(x, 1, 4);
        rowsOf(x, 2, 3);
        due("none yet", x.told(4), 0);
        rowsOf(x, 3, 1);
        due("two passed over", x.told(4), 2);
        due("one", x.parts(1), 1);
        due("no flip", x.told(3), 0);
        due("counters are empty", x.counter(0, 0), NONE);
    }

    private static void promise14SplitKey() {
        HotKeys x = new HotKeys();
        due("none", x.splitKey(0), NONE);
        x.split(99, 2);
        x.split(0, 2);
        x.split(40, 2);
        due("first", x.splitKey(0), 0);
        due("second", x.splitKey(1), 40);
        due("third", x.splitKey(2), 99);
        due("fourth", x.splitKey(3), NONE);
        due("-1", x.splitKey(-1), NONE);
        x.back(0);
        due("first now", x.splitKey(0), 40);
    }

    private static void promise15Load() {
        HotKeys x = new HotKeys();
        due("-1", x.load(-1), UNKNOWN);
        due("4", x.load(4), UNKNOWN);
        rowsOf(x, 5, 3);
        rowsOf(x, 9, 2);
        rowsOf(x, 3, 1);
        due("place 1", x.load(1), 5);
        due("place 3", x.load(3), 1);
        due("place 0", x.load(0), 0);
        x.split(5, 4);
        // Rows 6 to 9 are of parts 0, 0, 3, 3.
        rowsOf(x, 5, 4);
        due("place 1 of part 0", x.load(1), 7);
        due("place 0 of part 3", x.load(0), 2);
    }

    private static void promise16Small() {
        HotKeys x = new HotKeys();
        for (int key : BAD_KEYS) {
            due("key " + key, x.small(key, 0), UNKNOWN);
        }
        due("UNKNOWN ahead of OUTSIDE", x.small(100, 1001), UNKNOWN);
        due("weight 1001", x.small(0, 1001), OUTSIDE);
        due("weight -1001", x.small(0, -1001), OUTSIDE);
        due("none", x.told(13), 0);
        due("greatest", x.small(0, 1000), 1);
        due("least", x.small(0, -1000), 2);
        for (int i = 2; i < 60; i++) {
            due("small row " + i, x.small(i, 1), i + 1);
        }
        due("a 61st", x.small(0, 1), ROOM);
        due("OUTSIDE ahead of ROOM", x.small(0, 1001), OUTSIDE);
        due("sixty", x.told(13), 60);
    }

    private static void promise17Copies() {
        HotKeys x = new HotKeys();
        due("-1", x.copies(-1), UNKNOWN);
        due("4", x.copies(4), UNKNOWN);
        x.small(6, 1);
        x.small(6, 2);
        x.small(4, 1);
        due("home of 6", x.copies(2), 2);
        due("home of 4", x.copies(0), 1);
        x.split(6, 3);
        x.small(6, 3);
        due("part 0", x.copies(2), 3);
        due("part 1", x.copies(3), 3);
        due("part 2", x.copies(0), 4);
        due("no part", x.copies(1), 0);
        x.back(6);
        due("home again", x.copies(2), 3);
        due("not there", x.copies(3), 0);
    }

    private static void promise18Out() {
        HotKeys x = new HotKeys();
        due("at first", x.out(), 0);
        x.row(6, 10);
        x.small(6, 3);
        x.small(6, -1000);
        x.small(7, 5);
        due("earlier rows met none", x.out(), 0);
        x.row(6, 10);
        due("10 * 3 - 10 * 1000", x.out(), 30 - 10000);
        due("matches", x.told(5), 2);
        x.split(6, 4);
        x.row(6, -1000);
        due("at any part", x.out(), 30 - 10000 - 3000 + 1000000);
        due("matches", x.told(5), 4);
        x.row(8, 1);
        due("no small row of 8", x.told(5), 4);
        HotKeys y = new HotKeys();
        for (int i = 0; i < 60; i++) {
            y.small(0, 1000);
        }
        for (int i = 0; i < 40; i++) {
            y.row(0, 1000);
        }
        due("above 32 bits", y.out(), 2400000000L);
    }

    private static void promise19Timer() {
        HotKeys x = new HotKeys();
        for (int key : BAD_KEYS) {
            due("key " + key, x.timer(key, 1), UNKNOWN);
        }
        due("UNKNOWN ahead of OUTSIDE", x.timer(100, 0), UNKNOWN);
        due("at TIME", x.timer(1, 0), OUTSIDE);
        due("before TIME", x.timer(1, -1), OUTSIDE);
        due("above", x.timer(1, 1000001), OUTSIDE);
        due("the latest", x.timer(1, 1000000), 1);
        due("the next", x.timer(1, 1), 2);
        due("a tick", x.tick(1), 1);
        due("at TIME", x.timer(1, 1), OUTSIDE);
        for (int i = 1; i < 40; i++) {
            due("timer " + i, x.timer(2, 500 - i), i + 1);
        }
        due("a 41st", x.timer(2, 9), ROOM);
        due("OUTSIDE ahead of ROOM", x.timer(2, 1), OUTSIDE);
        due("forty", x.told(7), 40);
        due("all but one", x.tick(999999), 39);
        due("room again", x.timer(2, 1000000), 2);
        HotKeys y = new HotKeys();
        for (int i = 1; i <= 40; i++) {
            due("timer in order " + i, y.timer(i, i), i);
        }
        due("half of them", y.tick(20), 20);
        due("the 20th", y.log(0, 0), 20);
        due("the others", y.tick(40), 20);
        due("the 40th", y.log(0, 0), 40);
        due("the first", y.log(39, 0), 1);
    }

    private static void promise20Tick() {
        HotKeys x = withFolds(0);
        due("below", x.tick(-1), OUTSIDE);
        due("above", x.tick(1000001), OUTSIDE);
        due("stays", x.tick(0), 0);
        x.timer(1, 5);
        x.timer(2, 4);
        x.timer(3, 5);
        x.timer(4, 6);
        x.timer(5, 4);
        due("none due", x.tick(3), 0);
        due("below TIME", x.tick(2), OUTSIDE);
        due("TIME", x.told(8), 3);
        due("four due", x.tick(5), 4);
        due("one waits", x.told(7), 1);
        int[] order = {3, 1, 5, 2};
        for (int i = 0; i < 4; i++) {
            due("log " + i, x.log(i, 0), order[i]);
        }
        due("stays", x.tick(5), 0);
        due("the last one", x.tick(1000000), 1);
        due("latest", x.log(0, 0), 4);
        due("TIME", x.told(8), 1000000);
        due("none after it", x.timer(1, 1000000), OUTSIDE);
        HotKeys y = withFolds(6, 7);
        y.row(1, 5);
        y.row(2, 5);
        y.timer(1, 1);
        y.tick(1);
        due("empty chain", y.state(0, 1), 7);
        due("another key's chain", y.state(0, 2), 222);
        y.row(1, 4);
        due("none was folded before it", y.state(1, 1), 0);
        y.row(1, 3);
        due("falls", y.state(1, 1), 1);
    }

    private static void promise21Log() {
        HotKeys x = withFolds(0, 1, 2, 5);
        due("empty", x.log(0, 0), NOTHING);
        x.split(9, 4);
        x.row(9, 3);
        x.row(9, -4);
        x.row(9, 6);
        x.timer(9, 10);
        x.timer(9, 12);
        x.tick(20);
        long[] first = {9, 10, 3, 5, -4, 6, NOTHING, NOTHING};
        long[] second = {9, 12, 0, 0, NOTHING, NOTHING, NOTHING, NOTHING};
        for (int what = 0; what < 8; what++) {
            due("log(1, " + what + ")", x.log(1, what), first[what]);
            due("log(0, " + what + ")", x.log(0, what), second[what]);
        }
        due("what -1", x.log(0, -1), NOTHING);
        due("what 8", x.log(0, 8), NOTHING);
        due("i 2", x.log(2, 0), NOTHING);
        due("i -1", x.log(-1, 0), NOTHING);
        due("still split", x.parts(9), 4);
        for (int part = 0; part < 4; part++) {
            due("empty count", x.part(0, 9, part), 0);
            due("empty least", x.part(2, 9, part), NOTHING);
        }
        x.row(9, 7);
        due("from empty on", x.state(1, 9), 7);
        due("the last one", x.state(3, 9), 7);
    }

    private static void promise21LogKeepsTheLatest() {
        HotKeys x = new HotKeys();
        for (int i = 1; i <= 70; i++) {
            x.timer(i, i);
            x.tick(i);
            due("kept", x.told(9), Math.min(i, 64));
        }
        for (int i = 0; i < 64; i++) {
            due("log(" + i + ")", x.log(i, 0), 70 - i);
            due("its time", x.log(i, 1), 70 - i);
        }
        due("log(64)", x.log(64, 0), NOTHING);
    }

    private static void promise22Mark() {
        HotKeys x = new HotKeys();
        x.row(1, 1);
        for (int i = 0; i < 4; i++) {
            due("mark " + i, x.mark(), i);
        }
        due("a fifth", x.mark(), ROOM);
        due("four", x.told(11), 4);
        HotKeys y = withFolds(0);
        y.split(1, 3);
        y.row(1, 1);
        y.mark();
        due("a mark changes no part", y.parts(1), 3);
        y.row(1, 1);
        y.mark();
        due("the first holds 1", y.restore(0), 1);
        due("its state", y.state(0, 1), 1);
        due("the second holds 2", y.restore(1), 2);
        due("its state", y.state(0, 1), 2);
    }

    private static void promise23Restore() {
        HotKeys x = withFolds(0, 5);
        due("no mark", x.restore(0), UNKNOWN);
        due("-1", x.restore(-1), UNKNOWN);
        x.split(9, 4);
        x.small(9, 2);
        x.row(9, 3);
        x.row(9, 4);
        x.timer(9, 10);
        x.tick(2);
        x.mark();
        due("1", x.restore(1), UNKNOWN);
        due("4", x.restore(4), UNKNOWN);
        x.small(9, 100);
        x.row(9, 5);
        x.tick(11);
        x.timer(8, 12);
        due("restored", x.restore(0), 2);
        due("rows", x.told(0), 2);
        due("count", x.state(0, 9), 2);
        due("last", x.state(1, 9), 4);
        due("one", x.parts(9), 1);
        due("none is split", x.splitKey(0), NONE);
        due("small rows", x.told(13), 1);
        due("copies at home", x.copies(1), 1);
        due("copies elsewhere", x.copies(2), 0);
        due("timers", x.told(7), 1);
        due("TIME", x.told(8), 2);
        due("out", x.out(), 14);
        due("matches", x.told(5), 2);
        due("marks stay", x.told(11), 1);
        due("folds stay", x.told(10), 2);
        due("moved stays", x.told(6), 0);
        due("the timer waits", x.tick(10), 1);
        due("its count", x.log(0, 2), 2);
        due("again", x.restore(0), 2);
        due("count again", x.state(0, 9), 2);
    }

    private static void promise23RestoreFoldsGoOn() {
        HotKeys x = withFolds(5);
        x.split(9, 4);
        x.row(9, 3);
        x.mark();
        rowsOf(x, 9, 20);
        x.restore(0);
        x.split(9, 4);
        due("part 0 has it", x.part(0, 9, 0), 3);
        due("row 1 is of part 3", x.row(9, 8), 0);
        due("the later row leads", x.state(0, 9), 8);
        HotKeys y = withFolds(7);
        y.row(1, 10);
        y.row(1, 5);
        y.mark();
        y.row(1, -100);
        y.restore(0);
        y.row(1, 4);
        due("falls behind the held value", y.state(0, 1), 2);
    }

    private static void promise23RestoreBringsAllKeys() {
        HotKeys x = withFolds(1);
        x.row(0, 5);
        x.row(99, 6);
        x.mark();
        x.row(0, 7);
        x.row(99, 8);
        x.restore(0);
        due("the least key", x.state(0, 0), 5);
        due("the greatest key", x.state(0, 99), 6);
    }

    private static void promise23RestoreSmallRows() {
        HotKeys x = new HotKeys();
        x.mark();
        x.small(1, 10);
        x.timer(1, 5);
        x.mark();
        x.restore(0);
        due("none", x.told(13), 0);
        x.small(2, 20);
        x.timer(2, 6);
        x.restore(1);
        due("at the home of 1", x.copies(1), 1);
        due("not at that of 2", x.copies(2), 0);
        x.row(1, 3);
        due("its weight", x.out(), 30);
        due("its timer", x.tick(5), 1);
        due("its key", x.log(0, 0), 1);
    }

    private static void promise23RestoreForgets() {
        HotKeys x = withFolds(0);
        x.shape(3, 8, 3, 2, 2);
        x.mark();
        rowsOf(x, 4, 11);
        x.back(4);
        x.timer(4, 1);
        x.tick(1);
        due("rounds", x.told(2), 1);
        due("flips", x.told(3), 1);
        due("rows 8, 9, 10 were of parts 2, 2, 1", x.told(6), 2);
        due("counter", x.counter(0, 0), 4);
        due("no rows", x.restore(0), 0);
        due("rows of the round", x.told(1), 0);
        due("counter is empty", x.counter(0, 0), NONE);
        due("not hot", x.hot(4), 0);
        due("log is empty", x.told(9), 0);
        due("no log", x.log(0, 0), NOTHING);
        for (int place = 0; place < 3; place++) {
            due("load", x.load(place), 0);
        }
        due("rounds stay", x.told(2), 1);
        due("flips stay", x.told(3), 1);
        due("moved stay", x.told(6), 2);
        due("the shape stays", x.load(3), UNKNOWN);
        rowsOf(x, 4, 7);
        due("seven", x.told(1), 7);
        rowsOf(x, 4, 1);
        due("a round of eight", x.told(2), 2);
    }

    private static void promise24Told() {
        HotKeys x = withFolds(0, 1);
        due("-1", x.told(-1), OUTSIDE);
        due("14", x.told(14), OUTSIDE);
        due("least", x.told(Integer.MIN_VALUE), OUTSIDE);
        x.shape(4, 8, 2, 1, 3);
        x.small(1, 1);
        x.small(1, 1);
        x.small(1, 1);
        x.small(2, 1);
        x.split(9, 2);
        rowsOf(x, 1, 5);
        rowsOf(x, 9, 6);
        x.back(9);
        x.timer(1, 3);
        x.timer(1, 4);
        x.timer(1, 4);
        x.timer(1, 100);
        x.timer(1, 101);
        x.tick(7);
        x.mark();
        // Key 9 had rows 5 to 10, by two parts 1, 0, 0, 1, 1, 0; it stayed split.
        long[] want = {11, 3, 1, 1, 0, 15, 1, 2, 7, 3, 2, 1, 1, 4};
        for (int what = 0; what < want.length; what++) {
            due("told(" + what + ")", x.told(what), want[what]);
        }
    }

    private static void promise25Clear() {
        HotKeys x = withFolds(0, 1);
        due("none had come", x.clear(), 0);
        x.shape(3, 8, 3, 1, 2);
        x.fold(6, false);
        rowsOf(x, 1, 20);
        x.clear();
        x.fold(5, true);
        x.small(1, 4);
        x.split(5, 3);
        rowsOf(x, 5, 7);
        rowsOf(x, 1, 40);
        x.timer(1, 9);
        x.timer(1, 99);
        x.tick(9);
        x.mark();
        x.back(5);
        due("47 had come", x.clear(), 47);
        isNew("cleared", x);
        due("a fold", x.fold(2, true), 0);
        due("empty", x.state(0, 5), NOTHING);
        due("a mark", x.mark(), 0);
        due("it holds no rows", x.restore(0), 0);
        due("nor states", x.state(0, 5), NOTHING);
        HotKeys y = withFolds(7);
        y.row(1, 5);
        y.clear();
        y.fold(7, true);
        y.row(1, 4);
        due("no value before", y.state(0, 1), 0);
        isNew("cleared twice", cleared(cleared(y)));
        HotKeys z = withFolds(5);
        rowsOf(z, 1, 30);
        z.clear();
        z.fold(5, true);
        z.split(1, 4);
        z.row(2, 9);
        z.row(1, 8);
        due("the rows before are forgotten", z.state(0, 1), 8);
    }

    private static HotKeys cleared(HotKeys x) {
        x.clear();
        return x;
    }
}
