/** A test for each sentence of the document's 25 promises that names a boundary case. */
public final class PromiseEdgesTest extends SentenceTests {
    public static void main(String[] args) throws Exception {
        runAll(PromiseEdgesTest.class, "Promise");
    }

    @Sentence(at = "What it is",
            says = "An object is used for at most 512 calls after it has been made")
    private static void uses512Calls() {
        HotKeys x = withFolds(COUNT);
        rows(x, 1, 450);
        for (int i = 0; i < 60; i++) {
            due("call " + (452 + i), x.state(0, 1), 450);
        }
        due("call 512", x.told(0), 450);
        // What later calls answer is free, but they must end, and throw nothing.
        for (int i = 0; i < 2000; i++) {
            x.restore(x.mark());
            x.small(i % 100, 1000);
            x.timer(i % 100, x.told(8) + 1);
            x.split(i % 100, 4);
            x.row(i % 100, 1000);
            x.tick(x.told(8) + 1);
        }
    }

    @Sentence(at = "The public face", says = "public static final int NONE = -1, "
            + "UNKNOWN = -101, OUTSIDE = -102, STATE = -103, ROOM = -104;")
    private static void constants() {
        due("NONE", HotKeys.NONE, -1);
        due("UNKNOWN", HotKeys.UNKNOWN, -101);
        due("OUTSIDE", HotKeys.OUTSIDE, -102);
        due("STATE", HotKeys.STATE, -103);
        due("ROOM", HotKeys.ROOM, -104);
    }

    // 1: a new object.

    @Sentence(at = "Promise 1", says = "No rows, FOLDS, SMALL rows, timers, MARKS; TIME 0.")
    private static void p01NothingIsThere() {
        HotKeys x = new HotKeys();
        for (int what = 0; what <= 13; what++) {
            due("told(" + what + ")", x.told(what), 0);
        }
        due("no fold", x.state(0, 0), NOTHING);
        due("no mark", x.restore(0), UNKNOWN);
        due("no log", x.log(0, 0), NOTHING);
        due("no key is split", x.splitKey(0), NONE);
        due("out", x.out(), 0);
        for (int place = 0; place < 4; place++) {
            due("no row at " + place, x.load(place), 0);
            due("no small row at " + place, x.copies(place), 0);
        }
        for (int i = 0; i < 4; i++) {
            due("counter " + i + " is empty", x.counter(i, 0), NONE);
        }
        for (int key = 0; key < 100; key++) {
            due("key " + key + " is one", x.parts(key), 1);
        }
        due("no timer", x.tick(1000000), 0);
    }

    @Sentence(at = "Promise 1", says = "No rows, FOLDS, SMALL rows, timers, MARKS; TIME 0.")
    private static void p01ObjectsAreApart() {
        HotKeys x = withFolds(COUNT);
        x.small(1, 1);
        rows(x, 1, 40);
        x.timer(1, 5);
        x.tick(3);
        x.mark();
        HotKeys y = new HotKeys();
        for (int what = 0; what <= 13; what++) {
            due("told(" + what + ") of another object", y.told(what), 0);
        }
    }

    // 2: shape.

    @Sentence(at = "Promise 2", says = "THE SHAPE (each KEY is one then): 1.")
    private static void p02EachKeyIsOneThen() {
        HotKeys x = withFolds(COUNT, LAST);
        x.split(0, 2);
        x.split(99, 4);
        due("a shape", x.shape(8, 8, 8, 0, 2), 1);
        due("key 0", x.parts(0), 1);
        due("key 99", x.parts(99), 1);
        due("none is split", x.told(12), 0);
        due("none moved", x.told(6), 0);
        due("no flip", x.told(3), 0);
        due("at its home", x.place(99, 0), 3);
        due("no part 1", x.place(99, 1), NONE);
        due("empty", x.state(1, 99), NOTHING);
        due("split again, wider", x.split(99, 8), 1);
        due("the last part", x.place(99, 7), 2);
        due("which is empty", x.part(1, 99, 7), NOTHING);
    }

    @Sentence(at = "Promise 2", says = "THE SHAPE (each KEY is one then): 1.")
    private static void p02OtherThingsStay() {
        HotKeys x = withFolds(COUNT);
        x.small(7, 5);
        x.timer(7, 3);
        x.timer(6, 1);
        x.tick(1);
        x.mark();
        due("a shape", x.shape(8, 8, 8, 0, 2), 1);
        due("a shape again", x.shape(5, 9, 8, 0, 2), 1);
        due("the small row is at its home", x.copies(2), 1);
        due("small rows", x.told(13), 1);
        due("timers", x.told(7), 1);
        due("TIME", x.told(8), 1);
        due("the log", x.told(9), 1);
        due("folds", x.told(10), 1);
        due("marks", x.told(11), 1);
    }

    @Sentence(at = "Promise 2", says = "1. OUTSIDE; STATE: there are rows that came.")
    private static void p02Outside() {
        HotKeys x = new HotKeys();
        int[][] wrong = {{1, 8, 1, 0, 1}, {9, 8, 1, 0, 1}, {2, 7, 1, 0, 1}, {2, 201, 1, 0, 1},
            {2, 8, 0, 0, 1}, {2, 8, 9, 0, 1}, {2, 8, 1, -1, 1}, {2, 8, 1, 1, 1}, {2, 8, 1, 0, 0},
            {2, 8, 1, 0, 13}};
        for (int[] n : wrong) {
            due("a wrong one", x.shape(n[0], n[1], n[2], n[3], n[4]), OUTSIDE);
        }
        due("place 3 stays", x.load(3), 0);
        due("counter 3 stays", x.counter(3, 0), NONE);
        due("all least", x.shape(2, 8, 1, 0, 1), 1);
        due("all greatest", x.shape(8, 200, 200, 199, 12), 1);
    }

    @Sentence(at = "Promise 2", says = "STATE: there are rows that came.")
    private static void p02StateWithRows() {
        HotKeys x = new HotKeys();
        x.row(100, 0);
        x.row(0, 1001);
        due("rows that were refused did not come", x.shape(3, 9, 8, 0, 2), 1);
        x.row(0, 0);
        due("one row", x.shape(4, 32, 8, 2, 4), STATE);
        due("place 2", x.load(2), 0);
        due("place 3 is not", x.load(3), UNKNOWN);
    }

    @Sentence(at = "Promise 2", says = "STATE: there are rows that came.")
    private static void p02StateAfterARestore() {
        HotKeys x = new HotKeys();
        x.mark();
        rows(x, 1, 3);
        x.mark();
        x.restore(0);
        due("to a mark without rows", x.shape(3, 9, 8, 0, 2), 1);
        x.restore(1);
        due("to a mark with rows", x.shape(4, 32, 8, 2, 4), STATE);
        x.clear();
        due("cleared", x.shape(3, 9, 8, 0, 2), 1);
    }

    // 3: fold.

    @Sentence(at = "Promise 3", says = "A FOLD: its number.")
    private static void p03ItsNumber() {
        HotKeys x = new HotKeys();
        int[] kinds = {7, 0, 6, 1, 5, 2};
        for (int i = 0; i < 6; i++) {
            due("fold " + i, x.fold(kinds[i], i % 2 == 0), i);
            due("so many", x.told(10), i + 1);
        }
        x.row(1, -4);
        long[] want = {0, 1, 31 * 7 - 4, -4, -4, -4};
        for (int i = 0; i < 6; i++) {
            due("state by fold " + i, x.state(i, 1), want[i]);
        }
    }

    @Sentence(at = "Promise 3", says = "OUTSIDE: KIND 0 to 7")
    private static void p03Kinds() {
        HotKeys x = new HotKeys();
        int[] beyond = {-1, 8, Integer.MIN_VALUE, Integer.MAX_VALUE};
        for (int kind : beyond) {
            due("kind " + kind, x.fold(kind, true), OUTSIDE);
            due("kind " + kind, x.fold(kind, false), OUTSIDE);
        }
        due("none", x.told(10), 0);
        due("kind 0", x.fold(0, true), 0);
        due("kind 7", x.fold(7, true), 1);
    }

    @Sentence(at = "Promise 3", says = "STATE: there are rows that came")
    private static void p03StateWithRows() {
        HotKeys x = new HotKeys();
        x.row(0, 1001);
        due("a refused row", x.fold(COUNT, true), 0);
        x.row(0, 0);
        due("a row", x.fold(COUNT, true), STATE);
        due("one fold", x.told(10), 1);
        x.clear();
        due("cleared", x.fold(COUNT, true), 0);
    }

    @Sentence(at = "Promise 3", says = "a MARK, or a KEY that is split")
    private static void p03StateWithAMark() {
        HotKeys x = new HotKeys();
        x.mark();
        due("a mark", x.fold(COUNT, true), STATE);
        x.row(1, 1);
        x.restore(0);
        due("restored, without rows", x.fold(COUNT, true), STATE);
        x.clear();
        due("cleared", x.fold(COUNT, true), 0);
    }

    @Sentence(at = "Promise 3", says = "or a KEY that is split")
    private static void p03StateWithASplitKey() {
        int[] keys = {0, 99};
        for (int key : keys) {
            HotKeys x = new HotKeys();
            x.split(key, 2);
            due("split " + key, x.fold(COUNT, true), STATE);
            x.back(key);
            due("back", x.fold(COUNT, true), 0);
            x.split(key, 4);
            due("split again", x.fold(COUNT, true), STATE);
            x.shape(4, 32, 8, 2, 4);
            due("one by a shape", x.fold(COUNT, true), 1);
        }
    }

    @Sentence(at = "Promise 3", says = "or a KEY that is split; ROOM.")
    private static void p03Room() {
        HotKeys x = withFolds(0, 1, 2, 3, 4);
        due("the sixth", x.fold(5, true), 5);
        due("the seventh", x.fold(6, false), ROOM);
        due("it was not taken: keys can be split", x.split(1, 2), 1);
        x.clear();
        due("cleared", x.fold(6, true), 0);
    }

    @Sentence(at = "Promise 3", says = "A FOLD: its number.")
    private static void p03EmptyAfterAClear() {
        long[] empty = {0, 0, NOTHING, NOTHING, 0, NOTHING, 7, 0};
        for (int kind = 0; kind < 8; kind++) {
            HotKeys x = withFolds(COUNT);
            rows(x, 0, 5);
            rows(x, 99, 5);
            x.clear();
            x.fold(kind, true);
            due("kind " + kind + ", key 0", x.state(0, 0), empty[kind]);
            due("kind " + kind + ", key 99", x.state(0, 99), empty[kind]);
        }
    }

    // 4: row.

    @Sentence(at = "Promise 4", says = "A row: its PLACE.")
    private static void p04ItsPlace() {
        HotKeys x = calm(8);
        due("key 0", x.row(0, 0), 0);
        due("key 7", x.row(7, 0), 7);
        due("key 8", x.row(8, 0), 0);
        due("key 99", x.row(99, 0), 3);
        x.split(99, 8);
        // Rows 4 to 8 are of parts 5, 5, 4, 4, 3.
        due("part 5", x.row(99, 0), 0);
        due("part 5", x.row(99, 0), 0);
        due("part 4", x.row(99, 0), 7);
        due("part 4", x.row(99, 0), 7);
        due("part 3", x.row(99, 0), 6);
    }

    @Sentence(at = "Promise 4", says = "UNKNOWN; OUTSIDE; ROOM.")
    private static void p04Unknown() {
        HotKeys x = new HotKeys();
        for (int key : NO_KEYS) {
            due("key " + key, x.row(key, 0), UNKNOWN);
        }
        due("none came", x.told(0), 0);
        due("none is counted", x.counter(0, 0), NONE);
        due("key 0", x.row(0, 0), 0);
        due("key 99", x.row(99, 0), 3);
    }

    @Sentence(at = "Promise 4", says = "UNKNOWN; OUTSIDE; ROOM.")
    private static void p04Outside() {
        HotKeys x = new HotKeys();
        int[] beyond = {-1001, 1001, Integer.MIN_VALUE, Integer.MAX_VALUE};
        for (int v : beyond) {
            due("value " + v, x.row(3, v), OUTSIDE);
        }
        due("none came", x.told(0), 0);
        due("none is counted", x.counter(0, 0), NONE);
        due("none was done", x.load(3), 0);
        due("-1000", x.row(3, -1000), 3);
        due("1000", x.row(3, 1000), 3);
    }

    @Sentence(at = "Promise 4", says = "UNKNOWN; OUTSIDE; ROOM.")
    private static void p04Room() {
        HotKeys x = calm(4);
        rows(x, 3, 449);
        due("the 450th", x.row(3, 0), 3);
        due("the 451st", x.row(3, 0), ROOM);
        due("another key's", x.row(4, 0), ROOM);
        x.split(5, 2);
        due("a split key's", x.row(5, 0), ROOM);
        due("cleared", x.clear(), 450);
        due("room again", x.row(3, 0), 3);
    }

    // 5: state.

    @Sentence(at = "Promise 5", says = "What the STATES of a KEY by a FOLD come to, JOINED.")
    private static void p05NoSuchFoldOrKey() {
        HotKeys x = withFolds(COUNT, CHAIN);
        due("fold 0", x.state(0, 0), 0);
        due("fold 1", x.state(1, 99), 7);
        int[] noFolds = {-1, 2, 5, 6, Integer.MIN_VALUE, Integer.MAX_VALUE};
        for (int fold : noFolds) {
            due("fold " + fold, x.state(fold, 0), NOTHING);
        }
        for (int key : NO_KEYS) {
            due("key " + key, x.state(0, key), NOTHING);
        }
        due("without folds", new HotKeys().state(0, 0), NOTHING);
    }

    @Sentence(at = "Promise 5", says = "What the STATES of a KEY by a FOLD come to, JOINED.")
    private static void p05OfAllParts() {
        HotKeys x = calm(8, COUNT, SUM, LEAST, GREATEST, SET, LAST);
        x.split(99, 8);
        for (int part = 0; part < 8; part++) {
            rowOfPart(x, 99, part, part == 5 ? -9 : part);
        }
        long[] want = {8, 14, -9, 7, 255 - 32, 7};
        for (int fold = 0; fold < 6; fold++) {
            due("fold " + fold, x.state(fold, 99), want[fold]);
        }
        due("it stays in parts", x.parts(99), 8);
        due("each with its own", x.part(1, 99, 5), -9);
    }

    // 6: part.

    @Sentence(at = "Promise 6",
            says = "The STATE of PART i of a KEY (0 alone, if it is one) by a FOLD.")
    private static void p06Part0AloneIfItIsOne() {
        HotKeys x = withFolds(COUNT);
        x.row(1, 5);
        due("part 0", x.part(0, 1, 0), 1);
        int[] none = {-1, 1, 2, 7, 8, Integer.MIN_VALUE, Integer.MAX_VALUE};
        for (int i : none) {
            due("part " + i, x.part(0, 1, i), NOTHING);
        }
        x.split(1, 4);
        x.back(1);
        due("back, part 0", x.part(0, 1, 0), 1);
        due("back, part 1", x.part(0, 1, 1), NOTHING);
    }

    @Sentence(at = "Promise 6",
            says = "The STATE of PART i of a KEY (0 alone, if it is one) by a FOLD.")
    private static void p06NoMorePartsThanSplit() {
        HotKeys x = calm(8, COUNT);
        for (int q = 2; q <= 8; q++) {
            x.split(q, q);
            due("the last of " + q, x.part(0, q, q - 1), 0);
            due("behind the last of " + q, x.part(0, q, q), NOTHING);
            due("-1 of " + q, x.part(0, q, -1), NOTHING);
        }
    }

    @Sentence(at = "Promise 6",
            says = "The STATE of PART i of a KEY (0 alone, if it is one) by a FOLD.")
    private static void p06NoSuchFoldOrKey() {
        HotKeys x = withFolds(COUNT);
        x.split(1, 2);
        int[] noFolds = {-1, 1, 6, Integer.MIN_VALUE, Integer.MAX_VALUE};
        for (int fold : noFolds) {
            due("fold " + fold, x.part(fold, 1, 0), NOTHING);
            due("fold " + fold, x.part(fold, 1, 1), NOTHING);
        }
        for (int key : NO_KEYS) {
            due("key " + key, x.part(0, key, 0), NOTHING);
        }
    }

    // 7: parts.

    @Sentence(at = "Promise 7", says = "How many PARTS a KEY has; 1: it is one. UNKNOWN.")
    private static void p07OneOrMore() {
        HotKeys x = calm(8);
        for (int q = 2; q <= 8; q++) {
            due("one", x.parts(q), 1);
            x.split(q, q);
            due("split", x.parts(q), q);
            x.back(q);
            due("back", x.parts(q), 1);
        }
    }

    @Sentence(at = "Promise 7", says = "How many PARTS a KEY has; 1: it is one. UNKNOWN.")
    private static void p07Unknown() {
        HotKeys x = new HotKeys();
        for (int key : NO_KEYS) {
            due("key " + key, x.parts(key), UNKNOWN);
        }
        due("key 0", x.parts(0), 1);
        due("key 99", x.parts(99), 1);
    }

    // 8: place.

    @Sentence(at = "Promise 8", says = "The PLACE of PART i of a KEY.")
    private static void p08PlacesWrapAround() {
        HotKeys x = calm(3);
        x.split(2, 3);
        due("part 0", x.place(2, 0), 2);
        due("part 1, around", x.place(2, 1), 0);
        due("part 2", x.place(2, 2), 1);
        x.split(3, 3);
        due("of home 0, part 2", x.place(3, 2), 2);
    }

    @Sentence(at = "Promise 8", says = "UNKNOWN; NONE: there is none such.")
    private static void p08NoneSuch() {
        HotKeys x = calm(8);
        int[] none = {-1, 1, 2, 8, Integer.MIN_VALUE, Integer.MAX_VALUE};
        for (int i : none) {
            due("part " + i + " of one", x.place(9, i), NONE);
        }
        due("part 0 of one", x.place(9, 0), 1);
        x.split(9, 8);
        due("part 7 of eight", x.place(9, 7), 0);
        due("part 8 of eight", x.place(9, 8), NONE);
        due("part -1 of eight", x.place(9, -1), NONE);
        x.split(10, 2);
        due("part 1 of two", x.place(10, 1), 3);
        due("part 2 of two", x.place(10, 2), NONE);
    }

    @Sentence(at = "Promise 8", says = "UNKNOWN; NONE: there is none such.")
    private static void p08Unknown() {
        HotKeys x = new HotKeys();
        for (int key : NO_KEYS) {
            due("key " + key, x.place(key, 0), UNKNOWN);
            due("key " + key + ", no part either", x.place(key, 1), UNKNOWN);
        }
        due("key 0", x.place(0, 0), 0);
        due("key 99", x.place(99, 0), 3);
    }

    // 9: split.

    @Sentence(at = "Promise 9", says = "A KEY is SPLIT into q PARTS: 1.")
    private static void p09ByCallIsNoFlip() {
        HotKeys x = withFolds(COUNT);
        due("split", x.split(0, 4), 1);
        due("and the last key", x.split(99, 2), 1);
        due("no flip", x.told(3), 0);
        due("two are split", x.told(12), 2);
        due("none moved", x.told(6), 0);
    }

    @Sentence(at = "Promise 9", says = "A KEY is SPLIT into q PARTS: 1.")
    private static void p09AllKeysAtOnce() {
        HotKeys x = calm(8, LAST);
        for (int key = 0; key < 100; key++) {
            due("key " + key, x.split(key, 8), 1);
        }
        due("all", x.told(12), 100);
        for (int key = 0; key < 100; key++) {
            x.row(key, key);
        }
        for (int key = 0; key < 100; key++) {
            due("state of " + key, x.state(0, key), key);
        }
        due("a mark of them", x.mark(), 0);
        due("restored", x.restore(0), 100);
        due("none is split", x.told(12), 0);
    }

    @Sentence(at = "Promise 9", says = "UNKNOWN; OUTSIDE: q")
    private static void p09UnknownAndOutside() {
        HotKeys x = withFolds(COUNT);
        for (int key : NO_KEYS) {
            due("key " + key, x.split(key, 2), UNKNOWN);
        }
        int[] beyond = {1, 0, -1, 5, 8, Integer.MIN_VALUE, Integer.MAX_VALUE};
        for (int q : beyond) {
            due("q " + q, x.split(7, q), OUTSIDE);
        }
        due("one", x.parts(7), 1);
        due("q 2", x.split(7, 2), 1);
        due("q 4", x.split(8, 4), 1);
    }

    @Sentence(at = "Promise 9", says = "STATE: it is split, or can't be.")
    private static void p09StateItIsSplit() {
        HotKeys x = withFolds(COUNT);
        x.split(7, 3);
        due("as it is", x.split(7, 3), STATE);
        due("wider", x.split(7, 4), STATE);
        due("narrower", x.split(7, 2), STATE);
        due("three", x.parts(7), 3);
        x.back(7);
        due("one", x.split(7, 4), 1);
    }

    @Sentence(at = "Promise 9", says = "STATE: it is split, or can't be.")
    private static void p09StateItCantBe() {
        HotKeys x = new HotKeys();
        x.fold(COUNT, false);
        due("not declared", x.split(7, 2), STATE);
        due("one", x.parts(7), 1);
        due("not passed over", x.told(4), 0);
        due("a chain", withFolds(CHAIN).split(7, 2), STATE);
        due("falls", withFolds(FALLS).split(7, 2), STATE);
    }

    // 10: back.

    @Sentence(at = "Promise 10",
            says = "A KEY is joined BACK: how many PARTS were MOVED. UNKNOWN; STATE: it is one.")
    private static void p10HowManyWereMoved() {
        HotKeys x = calm(8);
        x.split(8, 8);
        due("none", x.back(8), 0);
        x.split(8, 8);
        rows(x, 8, 2);
        due("rows 0 and 1, of parts 0 and 7", x.back(8), 1);
        x.split(8, 8);
        rows(x, 8, 16);
        due("rows 2 to 17, of all parts", x.back(8), 7);
        due("all in all", x.told(6), 8);
        due("no flip", x.told(3), 0);
    }

    @Sentence(at = "Promise 10",
            says = "A KEY is joined BACK: how many PARTS were MOVED. UNKNOWN; STATE: it is one.")
    private static void p10Unknown() {
        HotKeys x = new HotKeys();
        for (int key : NO_KEYS) {
            due("key " + key, x.back(key), UNKNOWN);
        }
        x.split(0, 2);
        x.split(99, 2);
        due("key 0", x.back(0), 0);
        due("key 99", x.back(99), 0);
    }

    @Sentence(at = "Promise 10",
            says = "A KEY is joined BACK: how many PARTS were MOVED. UNKNOWN; STATE: it is one.")
    private static void p10StateItIsOne() {
        HotKeys x = withFolds(COUNT);
        due("never split", x.back(7), STATE);
        rows(x, 7, 3);
        due("with rows", x.back(7), STATE);
        x.split(7, 2);
        due("split", x.back(7), 0);
        due("back already", x.back(7), STATE);
        x.split(7, 2);
        x.mark();
        x.restore(0);
        due("one by a restore", x.back(7), STATE);
        due("none moved", x.told(6), 0);
        due("three rows", x.state(0, 7), 3);
    }

    // 11: tree.

    @Sentence(at = "Promise 11",
            says = "Join k, from 0 on, of THE TREE of a KEY: 8 a + b, PART b into PART a.")
    private static void p11EightTimesA() {
        HotKeys x = calm(8);
        x.split(1, 8);
        due("1 into 0", x.tree(1, 0), 1);
        due("3 into 2", x.tree(1, 1), 8 * 2 + 3);
        due("5 into 4", x.tree(1, 2), 8 * 4 + 5);
        due("7 into 6", x.tree(1, 3), 8 * 6 + 7);
        due("2 into 0", x.tree(1, 4), 2);
        due("6 into 4", x.tree(1, 5), 8 * 4 + 6);
        due("4 into 0", x.tree(1, 6), 4);
    }

    @Sentence(at = "Promise 11", says = "UNKNOWN; NONE: there is none such.")
    private static void p11NoneSuch() {
        HotKeys x = calm(8);
        due("of one", x.tree(1, 0), NONE);
        for (int q = 2; q <= 8; q++) {
            x.split(q, q);
            due("behind the last of " + q, x.tree(q, q - 1), NONE);
            due("far behind", x.tree(q, Integer.MAX_VALUE), NONE);
            due("-1", x.tree(q, -1), NONE);
            due("far ahead", x.tree(q, Integer.MIN_VALUE), NONE);
        }
        x.back(8);
        due("of one again", x.tree(8, 0), NONE);
    }

    @Sentence(at = "Promise 11", says = "UNKNOWN; NONE: there is none such.")
    private static void p11Unknown() {
        HotKeys x = new HotKeys();
        x.split(0, 2);
        x.split(99, 2);
        for (int key : NO_KEYS) {
            due("key " + key, x.tree(key, 0), UNKNOWN);
        }
        due("key 0", x.tree(0, 0), 1);
        due("key 99", x.tree(99, 0), 1);
    }

    // 12: counter.

    @Sentence(at = "Promise 12", says = "its KEY (what = 0; NONE: it is empty)")
    private static void p12NoneIfEmpty() {
        HotKeys x = new HotKeys();
        due("at first", x.counter(0, 0), NONE);
        x.row(0, 0);
        due("key 0", x.counter(0, 0), 0);
        due("the second", x.counter(1, 0), NONE);
        due("the last", x.counter(3, 0), NONE);
        due("its count", x.counter(3, 1), 0);
        due("its error", x.counter(3, 2), 0);
    }

    @Sentence(at = "Promise 12", says = "its KEY (what = 0; NONE: it is empty)")
    private static void p12NoneWhenARoundEnded() {
        HotKeys x = new HotKeys();
        x.shape(4, 8, 8, 0, 2);
        for (int n = 0; n < 8; n++) {
            x.row(n % 3, 0);
        }
        for (int i = 0; i < 2; i++) {
            due("key of " + i, x.counter(i, 0), NONE);
            due("count of " + i, x.counter(i, 1), 0);
            due("error of " + i, x.counter(i, 2), 0);
        }
        x.row(5, 0);
        due("key of 0", x.counter(0, 0), 5);
        due("key of 1", x.counter(1, 0), NONE);
        due("count of 1", x.counter(1, 1), 0);
        due("error of 1", x.counter(1, 2), 0);
    }

    @Sentence(at = "Promise 12", says = "COUNT (1), ERROR (2).")
    private static void p12CountAndError() {
        HotKeys x = new HotKeys();
        x.shape(4, 200, 8, 2, 1);
        rows(x, 99, 150);
        due("key", x.counter(0, 0), 99);
        due("count", x.counter(0, 1), 150);
        due("no error", x.counter(0, 2), 0);
        rows(x, 0, 49);
        due("key 0", x.counter(0, 0), 0);
        due("count", x.counter(0, 1), 199);
        due("error", x.counter(0, 2), 150);
    }

    @Sentence(at = "Promise 12", says = "OUTSIDE: i not 0 to M - 1, what.")
    private static void p12Outside() {
        HotKeys x = new HotKeys();
        int[] noCounters = {-1, 4, 11, Integer.MIN_VALUE, Integer.MAX_VALUE};
        for (int i : noCounters) {
            due("counter " + i, x.counter(i, 0), OUTSIDE);
        }
        int[] noWhats = {-1, 3, Integer.MIN_VALUE, Integer.MAX_VALUE};
        for (int what : noWhats) {
            due("what " + what, x.counter(0, what), OUTSIDE);
            due("of an empty one " + what, x.counter(3, what), OUTSIDE);
        }
        for (int m = 1; m <= 12; m++) {
            x.shape(4, 32, 8, 2, m);
            due("the last of " + m, x.counter(m - 1, 0), NONE);
            due("behind the last of " + m, x.counter(m, 0), OUTSIDE);
        }
    }

    // 13: hot.

    private static HotKeys threshold3(int counters) {
        HotKeys x = new HotKeys();
        x.shape(4, 32, 3, 0, counters);
        return x;
    }

    @Sentence(at = "Promise 13", says = "2 surely")
    private static void p13Surely() {
        HotKeys x = threshold3(1);
        rows(x, 1, 2);
        due("2 of 3", x.hot(1), 0);
        rows(x, 1, 1);
        due("3 of 3", x.hot(1), 2);
        rows(x, 2, 2);
        due("count 5, error 3", x.hot(2), 1);
        rows(x, 2, 1);
        due("count 6, error 3", x.hot(2), 2);
    }

    @Sentence(at = "Promise 13", says = "1 perhaps (its COUNT")
    private static void p13PerhapsByItsCount() {
        HotKeys x = threshold3(2);
        rows(x, 1, 1);
        rows(x, 2, 1);
        rows(x, 3, 1);
        due("count 2, error 1", x.hot(3), 0);
        rows(x, 3, 1);
        due("count 3, error 1", x.hot(3), 1);
    }

    @Sentence(at = "Promise 13",
            says = "or, without a counter and if none is empty, the least COUNT is T or more)")
    private static void p13PerhapsByTheLeastCount() {
        HotKeys x = threshold3(2);
        due("at first", x.hot(9), 0);
        rows(x, 1, 5);
        due("one is empty", x.hot(9), 0);
        rows(x, 2, 2);
        due("least count 2", x.hot(9), 0);
        rows(x, 2, 1);
        due("least count 3", x.hot(9), 1);
        due("of any other key", x.hot(0), 1);
        due("of any other key", x.hot(99), 1);
    }

    @Sentence(at = "Promise 13",
            says = "or, without a counter and if none is empty, the least COUNT is T or more)")
    private static void p13WithAThresholdOf1() {
        HotKeys x = new HotKeys();
        x.shape(4, 32, 1, 0, 2);
        due("at first", x.hot(9), 0);
        x.row(1, 0);
        due("one row", x.hot(1), 2);
        due("one is empty", x.hot(9), 0);
        x.row(2, 0);
        due("none is empty", x.hot(9), 1);
    }

    @Sentence(at = "Promise 13", says = "Whether a KEY came T times at least in this ROUND")
    private static void p13OfThisRound() {
        HotKeys x = threshold3(1);
        rows(x, 1, 31);
        due("hot", x.hot(1), 2);
        due("perhaps", x.hot(2), 1);
        rows(x, 1, 1);
        due("the round ended", x.hot(1), 0);
        due("the round ended", x.hot(2), 0);
    }

    @Sentence(at = "Promise 13", says = "0 not. UNKNOWN.")
    private static void p13Unknown() {
        HotKeys x = threshold3(1);
        rows(x, 1, 5);
        for (int key : NO_KEYS) {
            due("key " + key, x.hot(key), UNKNOWN);
        }
    }

    // 14: splitKey.

    @Sentence(at = "Promise 14",
            says = "The k-th KEY, from 0 on, by numbers, that is split; NONE.")
    private static void p14ByNumbers() {
        HotKeys x = new HotKeys();
        due("none", x.splitKey(0), NONE);
        x.split(99, 2);
        due("the last key alone", x.splitKey(0), 99);
        x.split(0, 2);
        x.split(50, 2);
        int[] keys = {0, 50, 99};
        for (int k = 0; k < 3; k++) {
            due("k " + k, x.splitKey(k), keys[k]);
        }
        int[] none = {3, 99, 100, -1, Integer.MIN_VALUE, Integer.MAX_VALUE};
        for (int k : none) {
            due("k " + k, x.splitKey(k), NONE);
        }
    }

    @Sentence(at = "Promise 14",
            says = "The k-th KEY, from 0 on, by numbers, that is split; NONE.")
    private static void p14AllKeys() {
        HotKeys x = new HotKeys();
        for (int key = 99; key >= 0; key--) {
            x.split(key, 2);
        }
        for (int k = 0; k < 100; k++) {
            due("k " + k, x.splitKey(k), k);
        }
        due("k 100", x.splitKey(100), NONE);
        x.back(0);
        due("without key 0", x.splitKey(0), 1);
        due("k 98", x.splitKey(98), 99);
        due("k 99", x.splitKey(99), NONE);
    }

    // 15: load.

    @Sentence(at = "Promise 15", says = "Rows that were done at a PLACE. UNKNOWN.")
    private static void p15RowsOfAPlace() {
        HotKeys x = calm(4);
        rows(x, 3, 2);
        rows(x, 99, 1);
        due("place 3", x.load(3), 3);
        x.split(3, 4);
        rowOfPart(x, 3, 1, 0);
        int fillers = x.told(0) - 4;
        due("part 1 lies at place 0", x.load(0), 1);
        due("rows between, of key 98", x.load(2), fillers);
        x.back(3);
        due("rows stay where they were done", x.load(0), 1);
        due("rows stay where they were done", x.load(3), 3);
        x.row(0, 1001);
        due("refused ones aren't done", x.load(0), 1);
    }

    @Sentence(at = "Promise 15", says = "Rows that were done at a PLACE. UNKNOWN.")
    private static void p15Unknown() {
        HotKeys x = new HotKeys();
        int[] none = {-1, 4, 7, Integer.MIN_VALUE, Integer.MAX_VALUE};
        for (int place : none) {
            due("place " + place, x.load(place), UNKNOWN);
        }
        for (int places = 2; places <= 8; places++) {
            x.shape(places, 32, 8, 2, 4);
            due("the last of " + places, x.load(places - 1), 0);
            due("behind the last of " + places, x.load(places), UNKNOWN);
        }
    }

    // 16: small.

    @Sentence(at = "Promise 16", says = "A SMALL row (60 at most) of a KEY")
    private static void p16Small60AtMost() {
        HotKeys x = new HotKeys();
        for (int i = 1; i <= 60; i++) {
            due("small row " + i, x.small(i % 7, 1), i);
        }
        due("a 61st", x.small(1, 1), ROOM);
        due("of another key", x.small(99, 1), ROOM);
        due("sixty", x.told(13), 60);
        x.clear();
        due("cleared", x.small(1, 1), 1);
    }

    @Sentence(at = "Promise 16", says = "A SMALL row (60 at most) of a KEY")
    private static void p16Small60OfOneKey() {
        HotKeys x = new HotKeys();
        for (int i = 1; i <= 60; i++) {
            due("small row " + i, x.small(5, i), i);
        }
        due("a 61st", x.small(5, 1), ROOM);
        x.row(5, 1);
        due("all met", x.told(5), 60);
        due("out", x.out(), 60 * 61 / 2);
        due("copies", x.copies(1), 60);
    }

    @Sentence(at = "Promise 16", says = "with a WEIGHT of -1000 to 1000: how many there are.")
    private static void p16Weights() {
        HotKeys x = new HotKeys();
        int[] beyond = {-1001, 1001, Integer.MIN_VALUE, Integer.MAX_VALUE};
        for (int weight : beyond) {
            due("weight " + weight, x.small(1, weight), OUTSIDE);
        }
        due("none", x.told(13), 0);
        due("least", x.small(1, -1000), 1);
        due("greatest", x.small(1, 1000), 2);
        due("nought", x.small(1, 0), 3);
    }

    @Sentence(at = "Promise 16", says = "UNKNOWN; OUTSIDE; ROOM.")
    private static void p16Unknown() {
        HotKeys x = new HotKeys();
        for (int key : NO_KEYS) {
            due("key " + key, x.small(key, 1), UNKNOWN);
        }
        due("none", x.told(13), 0);
        due("key 0", x.small(0, 1), 1);
        due("key 99", x.small(99, 1), 2);
    }

    // 17: copies.

    @Sentence(at = "Promise 17", says = "How many SMALL rows lie at a PLACE. UNKNOWN.")
    private static void p17Copies() {
        HotKeys x = calm(8);
        x.small(0, 1);
        x.small(99, 1);
        due("place 0", x.copies(0), 1);
        due("place 3", x.copies(3), 1);
        due("place 7", x.copies(7), 0);
        x.split(99, 8);
        for (int place = 0; place < 8; place++) {
            due("at all places, " + place, x.copies(place), place == 0 ? 2 : 1);
        }
        x.back(99);
        due("home alone", x.copies(3), 1);
        due("home alone", x.copies(4), 0);
    }

    @Sentence(at = "Promise 17", says = "How many SMALL rows lie at a PLACE. UNKNOWN.")
    private static void p17Unknown() {
        HotKeys x = new HotKeys();
        int[] none = {-1, 4, 7, Integer.MIN_VALUE, Integer.MAX_VALUE};
        for (int place : none) {
            due("place " + place, x.copies(place), UNKNOWN);
        }
        for (int places = 2; places <= 8; places++) {
            x.shape(places, 32, 8, 2, 4);
            due("the last of " + places, x.copies(places - 1), 0);
            due("behind the last of " + places, x.copies(places), UNKNOWN);
        }
    }

    // 18: out.

    @Sentence(at = "Promise 18", says = "OUT.")
    private static void p18OutBeyond32Bits() {
        HotKeys x = new HotKeys();
        HotKeys y = new HotKeys();
        due("at first", new HotKeys().out(), 0);
        for (int i = 0; i < 60; i++) {
            x.small(1, 1000);
            y.small(1, -1000);
        }
        for (int i = 1; i <= 450; i++) {
            x.row(1, 1000);
            y.row(1, 1000);
        }
        due("the greatest", x.out(), 27000000000L);
        due("the least", y.out(), -27000000000L);
        due("matches", x.told(5), 27000);
    }

    // 19: timer.

    @Sentence(at = "Promise 19", says = "A timer: how many wait.")
    private static void p19HowManyWait() {
        HotKeys x = new HotKeys();
        due("one", x.timer(0, 2), 1);
        due("two", x.timer(99, 1), 2);
        x.tick(1);
        due("two again", x.timer(0, 2), 2);
        due("of one key and time", x.timer(0, 2), 3);
    }

    @Sentence(at = "Promise 19", says = "OUTSIDE: the time is not behind TIME")
    private static void p19NotBehindTime() {
        HotKeys x = new HotKeys();
        due("0 at 0", x.timer(1, 0), OUTSIDE);
        due("-1 at 0", x.timer(1, -1), OUTSIDE);
        due("far below", x.timer(1, Integer.MIN_VALUE), OUTSIDE);
        due("1 at 0", x.timer(1, 1), 1);
        x.tick(500);
        due("499 at 500", x.timer(1, 499), OUTSIDE);
        due("500 at 500", x.timer(1, 500), OUTSIDE);
        due("501 at 500", x.timer(1, 501), 1);
    }

    @Sentence(at = "Promise 19", says = "or above 1000000; ROOM.")
    private static void p19Above1000000() {
        HotKeys x = new HotKeys();
        due("1000001", x.timer(1, 1000001), OUTSIDE);
        due("far above", x.timer(1, Integer.MAX_VALUE), OUTSIDE);
        due("1000000", x.timer(1, 1000000), 1);
        due("none at 999999", x.tick(999999), 0);
        due("one at 1000000", x.tick(1000000), 1);
        due("no time is left", x.timer(1, 1000000), OUTSIDE);
    }

    @Sentence(at = "Promise 19", says = "or above 1000000; ROOM.")
    private static void p19Room() {
        HotKeys x = new HotKeys();
        for (int i = 0; i < 39; i++) {
            x.timer(1, 5);
        }
        due("the 40th", x.timer(1, 5), 40);
        due("the 41st", x.timer(1, 6), ROOM);
        due("forty", x.tick(5), 40);
        due("none more", x.tick(6), 0);
        due("room again", x.timer(1, 7), 1);
    }

    @Sentence(at = "Promise 19", says = "UNKNOWN; OUTSIDE")
    private static void p19Unknown() {
        HotKeys x = new HotKeys();
        for (int key : NO_KEYS) {
            due("key " + key, x.timer(key, 1), UNKNOWN);
        }
        due("none waits", x.told(7), 0);
        due("key 0", x.timer(0, 1), 1);
        due("key 99", x.timer(99, 1), 2);
    }

    // 20: tick.

    @Sentence(at = "Promise 20", says = "TIME goes on to t (or stays): how many timers came.")
    private static void p20OrStays() {
        HotKeys x = new HotKeys();
        due("stays at 0", x.tick(0), 0);
        due("goes on", x.tick(5), 0);
        due("TIME", x.told(8), 5);
        due("stays at 5", x.tick(5), 0);
        due("TIME", x.told(8), 5);
        x.timer(1, 6);
        x.timer(1, 6);
        x.timer(1, 7);
        x.timer(1, 8);
        due("three came", x.tick(7), 3);
        due("the end", x.tick(1000000), 1);
        due("stays at the end", x.tick(1000000), 0);
    }

    @Sentence(at = "Promise 20", says = "OUTSIDE: t is below TIME, or above 1000000.")
    private static void p20BelowTime() {
        HotKeys x = new HotKeys();
        due("-1", x.tick(-1), OUTSIDE);
        due("far below", x.tick(Integer.MIN_VALUE), OUTSIDE);
        x.tick(10);
        due("9 at 10", x.tick(9), OUTSIDE);
        due("0 at 10", x.tick(0), OUTSIDE);
        due("TIME", x.told(8), 10);
    }

    @Sentence(at = "Promise 20", says = "OUTSIDE: t is below TIME, or above 1000000.")
    private static void p20Above1000000() {
        HotKeys x = new HotKeys();
        x.timer(1, 1000000);
        due("1000001", x.tick(1000001), OUTSIDE);
        due("far above", x.tick(Integer.MAX_VALUE), OUTSIDE);
        due("TIME", x.told(8), 0);
        due("it waits", x.told(7), 1);
        due("1000000", x.tick(1000000), 1);
        due("TIME", x.told(8), 1000000);
    }

    // 21: log.

    @Sentence(at = "Promise 21", says = "Of THE LOG, i = 0 the latest")
    private static void p21TheLatestIs0() {
        HotKeys x = new HotKeys();
        due("empty", x.log(0, 0), NOTHING);
        x.timer(0, 1);
        x.timer(99, 2);
        x.tick(2);
        due("the latest", x.log(0, 0), 99);
        due("the one before", x.log(1, 0), 0);
        int[] none = {-1, 2, 63, 64, Integer.MIN_VALUE, Integer.MAX_VALUE};
        for (int i : none) {
            due("row " + i, x.log(i, 0), NOTHING);
        }
    }

    @Sentence(at = "Promise 21", says = "the KEY (what = 0), the time of the timer (1)")
    private static void p21TheTimeOfTheTimer() {
        HotKeys x = new HotKeys();
        x.timer(5, 3);
        x.timer(6, 1000000);
        x.tick(9);
        due("not that of the tick", x.log(0, 1), 3);
        x.tick(1000000);
        due("the greatest", x.log(0, 1), 1000000);
    }

    @Sentence(at = "Promise 21",
            says = "the STATE of FOLD what - 2 (2 to 7; of a FOLD that there was not NOTHING).")
    private static void p21StatesOfFolds() {
        HotKeys x = withFolds(COUNT, SUM, LEAST, GREATEST, SET, LAST);
        x.row(5, -4);
        x.timer(5, 3);
        x.tick(3);
        long[] want = {5, 3, 1, -4, -4, -4, 1 << 12, -4};
        for (int what = 0; what < 8; what++) {
            due("what " + what, x.log(0, what), want[what]);
        }
        int[] none = {-1, 8, Integer.MIN_VALUE, Integer.MAX_VALUE};
        for (int what : none) {
            due("what " + what, x.log(0, what), NOTHING);
        }
    }

    @Sentence(at = "Promise 21", says = "of a FOLD that there was not NOTHING")
    private static void p21FoldsThatThereWereNot() {
        HotKeys x = withFolds(COUNT);
        x.timer(5, 3);
        x.tick(3);
        due("a fold told later", x.fold(SUM, true), 1);
        x.timer(5, 4);
        x.tick(4);
        due("there was one", x.log(1, 2), 0);
        due("there was no second", x.log(1, 3), NOTHING);
        due("then there was", x.log(0, 3), 0);
        due("there was no third", x.log(0, 4), NOTHING);
        due("nor a sixth", x.log(0, 7), NOTHING);
    }

    @Sentence(at = "Promise 21", says = "of a FOLD that there was not NOTHING")
    private static void p21WithoutFolds() {
        HotKeys x = new HotKeys();
        x.row(5, 3);
        x.timer(5, 3);
        x.tick(3);
        due("key", x.log(0, 0), 5);
        due("time", x.log(0, 1), 3);
        for (int what = 2; what < 8; what++) {
            due("what " + what, x.log(0, what), NOTHING);
        }
    }

    @Sentence(at = "Promise 21", says = "of a FOLD that there was not NOTHING")
    private static void p21FoldsThatThereWereNotInAnOldPlaceOfTheLog() {
        HotKeys x = withFolds(COUNT, COUNT, COUNT, COUNT, COUNT, COUNT);
        for (int i = 1; i <= 65; i++) {
            x.timer(5, i);
            x.tick(i);
        }
        x.clear();
        x.fold(COUNT, true);
        for (int i = 1; i <= 65; i++) {
            x.timer(5, i);
            x.tick(i);
        }
        for (int i = 0; i < 64; i++) {
            due("fold 0 of row " + i, x.log(i, 2), 0);
            due("fold 1 of row " + i, x.log(i, 3), NOTHING);
        }
        due("fold 5", x.log(0, 7), NOTHING);
    }

    // 22: mark.

    @Sentence(at = "Promise 22", says = "A MARK: its number. ROOM.")
    private static void p22ItsNumberAndRoom() {
        HotKeys x = new HotKeys();
        for (int i = 0; i < 4; i++) {
            due("mark " + i, x.mark(), i);
            due("so many", x.told(11), i + 1);
        }
        due("a fifth", x.mark(), ROOM);
        x.restore(0);
        due("a restore makes no room", x.mark(), ROOM);
        due("four", x.told(11), 4);
        x.clear();
        due("cleared", x.mark(), 0);
    }

    @Sentence(at = "Promise 22", says = "A MARK: its number. ROOM.")
    private static void p22ChangesNothingElse() {
        HotKeys x = calm(4, COUNT);
        x.small(7, 1);
        x.split(7, 4);
        rows(x, 7, 9);
        x.timer(7, 5);
        x.timer(6, 1);
        x.tick(1);
        long[] before = {x.told(0), x.told(1), x.told(6), x.told(7), x.told(9), x.parts(7),
            x.part(0, 7, 0), x.part(0, 7, 3), x.counter(0, 1), x.load(3), x.copies(0)};
        x.mark();
        long[] after = {x.told(0), x.told(1), x.told(6), x.told(7), x.told(9), x.parts(7),
            x.part(0, 7, 0), x.part(0, 7, 3), x.counter(0, 1), x.load(3), x.copies(0)};
        for (int i = 0; i < before.length; i++) {
            due("answer " + i + " behind it", after[i], before[i]);
        }
    }

    // 23: restore.

    @Sentence(at = "Promise 23", says = "A MARK is RESTORED: how many rows came. UNKNOWN.")
    private static void p23HowManyRowsCame() {
        HotKeys x = withFolds(COUNT);
        x.mark();
        rows(x, 1, 450);
        x.mark();
        due("none", x.restore(0), 0);
        due("none", x.told(0), 0);
        due("all", x.restore(1), 450);
        due("all", x.told(0), 450);
        due("all again", x.restore(1), 450);
        due("its count", x.state(0, 1), 450);
    }

    @Sentence(at = "Promise 23", says = "A MARK is RESTORED: how many rows came. UNKNOWN.")
    private static void p23Unknown() {
        HotKeys x = new HotKeys();
        due("none", x.restore(0), UNKNOWN);
        for (int i = 0; i < 4; i++) {
            due("not yet " + i, x.restore(i), UNKNOWN);
            x.mark();
            due("now " + i, x.restore(i), 0);
        }
        int[] none = {-1, 4, Integer.MIN_VALUE, Integer.MAX_VALUE};
        for (int mark : none) {
            due("mark " + mark, x.restore(mark), UNKNOWN);
        }
        x.clear();
        due("cleared", x.restore(0), UNKNOWN);
        x.mark();
        due("the second is gone", x.restore(1), UNKNOWN);
    }

    @Sentence(at = "Promise 23", says = "A MARK is RESTORED: how many rows came. UNKNOWN.")
    private static void p23AMarkOfARestoredState() {
        HotKeys x = calm(4, COUNT, LAST);
        x.split(1, 4);
        rowOfPart(x, 1, 3, 5);
        x.mark();
        rowOfPart(x, 1, 0, 6);
        x.restore(0);
        due("a mark of it", x.mark(), 1);
        x.row(1, 9);
        due("restored", x.restore(1), x.restore(0));
        due("count", x.state(0, 1), 1);
        due("last", x.state(1, 1), 5);
    }

    // 24: told.

    @Sentence(at = "Promise 24", says = "SMALL rows (13). OUTSIDE.")
    private static void p24Outside() {
        HotKeys x = new HotKeys();
        int[] beyond = {-1, 14, Integer.MIN_VALUE, Integer.MAX_VALUE};
        for (int what : beyond) {
            due("what " + what, x.told(what), OUTSIDE);
        }
        due("what 0", x.told(0), 0);
        due("what 13", x.told(13), 0);
    }

    @Sentence(at = "Promise 24", says = "Rows that came (what = 0), rows of this ROUND (1), "
            + "ROUNDS that ended (2), FLIPS (3), how often a KEY was PASSED OVER (4)")
    private static void p24RowsAndRounds() {
        HotKeys x = withFolds(COUNT);
        x.shape(4, 8, 8, 0, 2);
        rows(x, 1, 8);
        rows(x, 2, 11);
        // Key 1 was split, then key 2, and key 1 was joined back.
        long[] want = {19, 3, 2, 3, 0};
        for (int what = 0; what < 5; what++) {
            due("told(" + what + ")", x.told(what), want[what]);
        }
        HotKeys y = withFolds(CHAIN);
        y.shape(4, 8, 2, 0, 2);
        rows(y, 1, 4);
        rows(y, 2, 5);
        long[] passed = {9, 1, 1, 0, 2};
        for (int what = 0; what < 5; what++) {
            due("told(" + what + ") of a chain", y.told(what), passed[what]);
        }
    }

    @Sentence(at = "Promise 24", says = "MATCHES (5), PARTS that were MOVED (6), "
            + "timers that wait (7), TIME (8), rows of THE LOG that are kept (9)")
    private static void p24MatchesMovedTimersTimeLog() {
        HotKeys x = calm(4);
        x.small(1, 0);
        x.small(1, 0);
        x.split(1, 4);
        rows(x, 1, 5);
        x.back(1);
        x.timer(1, 4);
        x.timer(1, 9);
        x.timer(1, 9);
        x.timer(1, 3);
        x.timer(1, 9);
        x.tick(8);
        // Rows 0 to 4 were of parts 0, 3, 2, 2, 1.
        long[] want = {10, 3, 3, 8, 2};
        for (int what = 5; what < 10; what++) {
            due("told(" + what + ")", x.told(what), want[what - 5]);
        }
    }

    @Sentence(at = "Promise 24",
            says = "FOLDS (10), MARKS (11), KEYS that are split (12), SMALL rows (13).")
    private static void p24FoldsMarksSplitKeysSmallRows() {
        HotKeys x = withFolds(COUNT, SUM, LAST);
        x.mark();
        x.split(0, 2);
        x.split(99, 2);
        for (int i = 0; i < 5; i++) {
            x.small(i, i);
        }
        long[] want = {3, 1, 2, 5};
        for (int what = 10; what < 14; what++) {
            due("told(" + what + ")", x.told(what), want[what - 10]);
        }
    }

    // 25: clear.

    @Sentence(at = "Promise 25", says = "how many rows had come.")
    private static void p25HowManyRowsHadCome() {
        HotKeys x = new HotKeys();
        due("none", x.clear(), 0);
        rows(x, 1, 450);
        x.row(1, 0);
        due("all", x.clear(), 450);
        due("none now", x.clear(), 0);
        HotKeys y = new HotKeys();
        rows(y, 1, 3);
        y.mark();
        rows(y, 1, 3);
        y.restore(0);
        due("after a restore", y.clear(), 3);
    }

    @Sentence(at = "Promise 25", says = "All is as at the beginning")
    private static void p25AsAtTheBeginning() {
        HotKeys x = busy();
        x.clear();
        for (int what = 0; what <= 13; what++) {
            due("told(" + what + ")", x.told(what), 0);
        }
        due("out", x.out(), 0);
        due("no fold", x.state(0, 5), NOTHING);
        due("no log", x.log(0, 0), NOTHING);
        due("no mark", x.restore(0), UNKNOWN);
        due("none is split", x.splitKey(0), NONE);
        for (int key = 0; key < 100; key++) {
            due("key " + key, x.parts(key), 1);
            due("not hot " + key, x.hot(key), 0);
        }
        for (int place = 0; place < 4; place++) {
            due("load", x.load(place), 0);
            due("copies", x.copies(place), 0);
            due("counter", x.counter(place, 0), NONE);
        }
        due("TIME is 0: a timer at 1", x.timer(1, 1), 1);
        due("no other timer", x.tick(1000000), 1);
    }

    @Sentence(at = "Promise 25", says = "All is as at the beginning")
    private static void p25WhatIsToldOfRoundsAndPartsIsNoughtAgain() {
        HotKeys x = withFolds(COUNT);
        x.shape(4, 8, 4, 0, 2);
        rows(x, 1, 16);
        due("moved", x.back(1), 2);
        due("rounds", x.told(2), 2);
        due("flips", x.told(3), 1);
        due("moved", x.told(6), 2);
        x.clear();
        x.fold(CHAIN, true);
        rows(x, 1, 32);
        due("passed over", x.told(4), 1);
        due("rounds", x.told(2), 1);
        due("flips", x.told(3), 0);
        due("moved", x.told(6), 0);
        x.clear();
        due("passed over", x.told(4), 0);
        due("rounds", x.told(2), 0);
    }

    @Sentence(at = "Promise 25", says = "All is as at the beginning")
    private static void p25ShapeIsAsAtTheBeginning() {
        HotKeys x = withFolds(COUNT);
        x.shape(8, 8, 1, 0, 12);
        rows(x, 7, 3);
        x.clear();
        due("place 3", x.load(3), 0);
        due("place 4", x.load(4), UNKNOWN);
        due("counter 3", x.counter(3, 0), NONE);
        due("counter 4", x.counter(4, 0), OUTSIDE);
        rows(x, 7, 7);
        due("7 of 8", x.hot(7), 0);
        rows(x, 7, 1);
        due("8 of 8", x.hot(7), 2);
        rows(x, 7, 23);
        due("31 rows", x.told(2), 0);
        rows(x, 7, 1);
        due("32 rows", x.told(2), 1);
        rows(x, 7, 6);
        rows(x, 2, 26);
        due("6 is not less than 8 - 2", x.parts(7), 4);
    }

    @Sentence(at = "Promise 25", says = "All is as at the beginning")
    private static void p25StatesAreAsAtTheBeginning() {
        HotKeys x = calm(4, COUNT, LAST);
        x.split(1, 4);
        for (int v = 0; v < 30; v++) {
            x.row(1, v);
        }
        x.mark();
        x.clear();
        x.fold(COUNT, true);
        x.fold(LAST, true);
        due("count", x.state(0, 1), 0);
        due("last", x.state(1, 1), NOTHING);
        x.split(1, 4);
        due("part 3 is empty", x.part(1, 1, 3), NOTHING);
        due("none moves", x.back(1), 0);
        x.split(1, 4);
        x.row(1, 7);
        x.row(1, 8);
        due("rows are numbered from 0 again", x.part(1, 1, 3), 8);
        due("the later one", x.state(1, 1), 8);
        HotKeys y = withFolds(FALLS);
        y.row(1, 5);
        y.clear();
        y.fold(FALLS, true);
        y.row(1, 4);
        due("no value was folded before it", y.state(0, 1), 0);
    }

    @Sentence(at = "Promise 25", says = "All is as at the beginning")
    private static void p25RowsBeforeAreNotLater() {
        HotKeys x = withFolds(LAST);
        rows(x, 1, 30);
        x.clear();
        x.fold(LAST, true);
        x.split(1, 4);
        x.row(2, 9);
        x.row(1, 8);
        due("row 1 is of part 3", x.part(0, 1, 3), 8);
        due("part 0 is empty", x.state(0, 1), 8);
    }
}
