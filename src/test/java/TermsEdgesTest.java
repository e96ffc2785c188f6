import java.util.function.ToLongBiFunction;

/** A test for each sentence of the document's "Terms" that names a boundary case. */
public final class TermsEdgesTest extends SentenceTests {
    public static void main(String[] args) throws Exception {
        runAll(TermsEdgesTest.class, "Terms");
    }

    // What all calls have in common.

    @Sentence(at = "Terms", says = "KEYS are 0 to 99")
    private static void keysAre0To99() {
        int[] edges = {0, 99};
        for (int key : edges) {
            HotKeys x = withFolds(COUNT);
            due("row", x.row(key, 1), key % 4);
            due("state", x.state(0, key), 1);
            due("part", x.part(0, key, 0), 1);
            due("parts", x.parts(key), 1);
            due("place", x.place(key, 0), key % 4);
            due("split", x.split(key, 2), 1);
            due("tree", x.tree(key, 0), 1);
            due("back", x.back(key), 0);
            due("hot", x.hot(key), 0);
            due("small", x.small(key, 1), 1);
            due("timer", x.timer(key, 1), 1);
        }
        HotKeys x = withFolds(COUNT);
        for (int key : NO_KEYS) {
            due("row(" + key + ")", x.row(key, 1), UNKNOWN);
            due("state(" + key + ")", x.state(0, key), NOTHING);
            due("part(" + key + ")", x.part(0, key, 0), NOTHING);
            due("parts(" + key + ")", x.parts(key), UNKNOWN);
            due("place(" + key + ")", x.place(key, 0), UNKNOWN);
            due("split(" + key + ")", x.split(key, 2), UNKNOWN);
            due("tree(" + key + ")", x.tree(key, 0), UNKNOWN);
            due("back(" + key + ")", x.back(key), UNKNOWN);
            due("hot(" + key + ")", x.hot(key), UNKNOWN);
            due("small(" + key + ")", x.small(key, 1), UNKNOWN);
            due("timer(" + key + ")", x.timer(key, 1), UNKNOWN);
        }
    }

    @Sentence(at = "Terms", says = "VALUES -1000 to 1000.")
    private static void valuesAreWithin1000() {
        HotKeys x = withFolds(SUM);
        int[] beyond = {-1001, 1001, Integer.MIN_VALUE, Integer.MAX_VALUE};
        for (int v : beyond) {
            due("value " + v, x.row(1, v), OUTSIDE);
        }
        due("least", x.row(1, -1000), 1);
        due("the sum", x.state(0, 1), -1000);
        due("greatest", x.row(1, 1000), 1);
        due("the sum", x.state(0, 1), 0);
    }

    @Sentence(at = "Terms", says = "PLACES (P, 2 to 8)")
    private static void placesAre2To8() {
        HotKeys x = new HotKeys();
        int[] beyond = {1, 9, 0, -1, Integer.MIN_VALUE, Integer.MAX_VALUE};
        for (int places : beyond) {
            due("places " + places, x.shape(places, 8, 1, 0, 1), OUTSIDE);
        }
        due("two", x.shape(2, 8, 1, 0, 1), 1);
        due("place 1", x.load(1), 0);
        due("place 2", x.load(2), UNKNOWN);
        due("eight", x.shape(8, 8, 1, 0, 1), 1);
        due("place 7", x.load(7), 0);
        due("place 8", x.load(8), UNKNOWN);
    }

    @Sentence(at = "Terms", says = "ROWS of a ROUND (R, 8 to 200)")
    private static void rowsOfARoundAre8To200() {
        HotKeys x = new HotKeys();
        int[] beyond = {7, 201, 0, -8, Integer.MIN_VALUE, Integer.MAX_VALUE};
        for (int round : beyond) {
            due("round " + round, x.shape(2, round, 1, 0, 1), OUTSIDE);
        }
        due("eight", x.shape(2, 8, 1, 0, 1), 1);
        rows(x, 1, 7);
        due("seven rows", x.told(2), 0);
        rows(x, 1, 1);
        due("eight rows", x.told(2), 1);
        HotKeys y = new HotKeys();
        due("two hundred", y.shape(2, 200, 1, 0, 1), 1);
        rows(y, 1, 199);
        due("199 rows", y.told(2), 0);
        rows(y, 1, 1);
        due("200 rows", y.told(2), 1);
    }

    @Sentence(at = "Terms", says = "a THRESHOLD (T, 1 to R)")
    private static void thresholdIs1ToR() {
        HotKeys x = new HotKeys();
        due("0", x.shape(2, 8, 0, 0, 1), OUTSIDE);
        due("-1", x.shape(2, 8, -1, 0, 1), OUTSIDE);
        due("least", x.shape(2, 8, Integer.MIN_VALUE, 0, 1), OUTSIDE);
        due("R and 1", x.shape(2, 8, 9, 0, 1), OUTSIDE);
        due("of another R", x.shape(2, 200, 201, 0, 1), OUTSIDE);
        due("within this R, not within the R before", x.shape(2, 200, 200, 0, 1), 1);
        rows(x, 1, 199);
        due("199 of 200", x.hot(1), 0);
        HotKeys y = new HotKeys();
        due("within the R before, not within this one", y.shape(2, 8, 32, 0, 1), OUTSIDE);
        due("R", y.shape(2, 8, 8, 0, 1), 1);
        rows(y, 1, 7);
        due("7 of 8", y.hot(1), 0);
        rows(y, 1, 1);
        due("split by the last row", y.parts(1), 2);
        HotKeys z = new HotKeys();
        due("1", z.shape(2, 8, 1, 0, 1), 1);
        rows(z, 1, 1);
        due("1 of 1", z.hot(1), 2);
    }

    @Sentence(at = "Terms", says = "a SLACK (S, 0 to T less 1)")
    private static void slackIs0ToTLess1() {
        HotKeys x = new HotKeys();
        due("-1", x.shape(2, 8, 3, -1, 1), OUTSIDE);
        due("T", x.shape(2, 8, 3, 3, 1), OUTSIDE);
        due("T of 1", x.shape(2, 8, 1, 1, 1), OUTSIDE);
        due("greatest", x.shape(2, 8, 3, Integer.MAX_VALUE, 1), OUTSIDE);
        due("least", x.shape(2, 8, 3, Integer.MIN_VALUE, 1), OUTSIDE);
        due("0", x.shape(2, 8, 3, 0, 1), 1);
        due("0 of 1", x.shape(2, 8, 1, 0, 1), 1);
        due("T less 1", x.shape(2, 8, 3, 2, 2), 1);
        x.split(1, 2);
        rows(x, 1, 1);
        rows(x, 2, 7);
        due("1 is not less than 3 - 2", x.parts(1), 2);
    }

    @Sentence(at = "Terms", says = "COUNTERS (M, 1 to 12)")
    private static void countersAre1To12() {
        HotKeys x = new HotKeys();
        int[] beyond = {0, 13, -1, Integer.MIN_VALUE, Integer.MAX_VALUE};
        for (int m : beyond) {
            due("counters " + m, x.shape(2, 8, 1, 0, m), OUTSIDE);
        }
        due("one", x.shape(2, 8, 1, 0, 1), 1);
        due("counter 0", x.counter(0, 0), NONE);
        due("counter 1", x.counter(1, 0), OUTSIDE);
        due("twelve", x.shape(2, 20, 1, 0, 12), 1);
        due("counter 11", x.counter(11, 0), NONE);
        due("counter 12", x.counter(12, 0), OUTSIDE);
        for (int key = 0; key < 12; key++) {
            x.row(key, 0);
        }
        due("the twelfth key", x.counter(11, 0), 11);
    }

    @Sentence(at = "Terms", says = "4, 32, 8, 2, 4 at first.")
    private static void shapeAtFirst() {
        HotKeys x = new HotKeys();
        due("place 3", x.load(3), 0);
        due("place 4", x.load(4), UNKNOWN);
        due("counter 3", x.counter(3, 0), NONE);
        due("counter 4", x.counter(4, 0), OUTSIDE);
        rows(x, 1, 7);
        due("7 of 8", x.hot(1), 0);
        rows(x, 1, 1);
        due("8 of 8", x.hot(1), 2);
        rows(x, 1, 23);
        due("31 rows", x.told(2), 0);
        rows(x, 1, 1);
        due("32 rows", x.told(2), 1);
        rows(x, 1, 6);
        rows(x, 2, 26);
        due("6 is not less than 8 - 2", x.parts(1), 4);
        rows(x, 1, 5);
        rows(x, 2, 27);
        due("5 is less than 8 - 2", x.parts(1), 1);
    }

    @Sentence(at = "Terms", says = "HOME of KEY k is PLACE k mod P.")
    private static void homeIsKeyModPlaces() {
        int[] keys = {0, 1, 2, 7, 8, 9, 50, 98, 99};
        for (int places = 2; places <= 8; places++) {
            HotKeys x = new HotKeys();
            x.shape(places, 200, 200, 0, 1);
            for (int key : keys) {
                due(places + " places, key " + key, x.place(key, 0), key % places);
                due("its row", x.row(key, 0), key % places);
            }
        }
    }

    @Sentence(at = "Terms", says = "NOTHING is -4000000000000.")
    private static void nothing() {
        HotKeys x = withFolds(LEAST);
        due("an empty state", x.state(0, 0), -4000000000000L);
        due("no such fold", x.state(1, 0), -4000000000000L);
    }

    @Sentence(at = "Terms", says = "UNKNOWN (a KEY, a FOLD, a PLACE, a mark that there is not)")
    private static void unknown() {
        HotKeys x = new HotKeys();
        due("a key", x.row(100, 0), -101);
        due("a place", x.load(4), -101);
        due("a place", x.copies(4), -101);
        due("a mark", x.restore(0), -101);
    }

    @Sentence(at = "Terms", says = "OUTSIDE (another number out of its bounds)")
    private static void outside() {
        HotKeys x = new HotKeys();
        due("shape", x.shape(4, 32, 8, 2, 13), -102);
        due("fold", x.fold(8, true), -102);
        due("row", x.row(0, 1001), -102);
        due("split", x.split(0, 5), -102);
        due("counter", x.counter(4, 0), -102);
        due("small", x.small(0, 1001), -102);
        due("timer", x.timer(0, 1000001), -102);
        due("tick", x.tick(1000001), -102);
        due("told", x.told(14), -102);
    }

    @Sentence(at = "Terms", says = "STATE (as told)")
    private static void stateAsTold() {
        HotKeys x = new HotKeys();
        due("back of one", x.back(0), -103);
        x.split(0, 2);
        due("split of a split one", x.split(0, 2), -103);
        due("fold", x.fold(0, true), -103);
        x.row(0, 0);
        due("shape", x.shape(4, 32, 8, 2, 4), -103);
    }

    @Sentence(at = "Terms", says = "STATE (as told), ROOM")
    private static void room() {
        HotKeys x = withFolds(0, 0, 0, 0, 0, 0);
        due("fold", x.fold(0, true), -104);
        for (int i = 0; i < 60; i++) {
            x.small(0, 0);
        }
        due("small", x.small(0, 0), -104);
        for (int i = 0; i < 40; i++) {
            x.timer(0, 1);
        }
        due("timer", x.timer(0, 1), -104);
        for (int i = 0; i < 4; i++) {
            x.mark();
        }
        due("mark", x.mark(), -104);
        HotKeys y = new HotKeys();
        rows(y, 0, 450);
        due("row", y.row(0, 0), -104);
    }

    @Sentence(at = "Terms", says = "Calls answer, the first of these that fits")
    private static void unknownAheadOfOutside() {
        HotKeys x = new HotKeys();
        due("row", x.row(-1, 1001), UNKNOWN);
        due("split", x.split(-1, 1), UNKNOWN);
        due("split", x.split(100, 9), UNKNOWN);
        due("small", x.small(-1, 1001), UNKNOWN);
        due("timer", x.timer(-1, 0), UNKNOWN);
        due("timer", x.timer(100, 1000001), UNKNOWN);
    }

    @Sentence(at = "Terms", says = "Calls answer, the first of these that fits")
    private static void unknownAheadOfState() {
        HotKeys x = withFolds(CHAIN);
        due("split", x.split(100, 2), UNKNOWN);
        due("back", x.back(100), UNKNOWN);
    }

    @Sentence(at = "Terms", says = "Calls answer, the first of these that fits")
    private static void unknownAheadOfNone() {
        HotKeys x = new HotKeys();
        due("place", x.place(100, 1), UNKNOWN);
        due("place", x.place(-1, -1), UNKNOWN);
        due("tree", x.tree(100, 0), UNKNOWN);
        due("tree", x.tree(-1, -1), UNKNOWN);
    }

    @Sentence(at = "Terms", says = "Calls answer, the first of these that fits")
    private static void unknownAndOutsideAheadOfRoom() {
        HotKeys x = new HotKeys();
        for (int i = 0; i < 60; i++) {
            x.small(0, 0);
        }
        due("small of no key", x.small(100, 0), UNKNOWN);
        due("small of no weight", x.small(0, 1001), OUTSIDE);
        due("small", x.small(0, 0), ROOM);
        for (int i = 0; i < 40; i++) {
            x.timer(0, 5);
        }
        due("timer of no key", x.timer(100, 5), UNKNOWN);
        due("timer at TIME", x.timer(0, 0), OUTSIDE);
        due("timer too late", x.timer(0, 1000001), OUTSIDE);
        due("timer", x.timer(0, 5), ROOM);
        HotKeys y = new HotKeys();
        rows(y, 0, 450);
        due("row of no key", y.row(100, 0), UNKNOWN);
        due("row of no value", y.row(0, 1001), OUTSIDE);
        due("row", y.row(0, 0), ROOM);
    }

    @Sentence(at = "Terms", says = "Calls answer, the first of these that fits")
    private static void outsideAheadOfState() {
        HotKeys x = new HotKeys();
        x.split(0, 2);
        due("fold", x.fold(8, true), OUTSIDE);
        due("split", x.split(0, 5), OUTSIDE);
        due("split", x.split(0, 1), OUTSIDE);
        x.row(0, 0);
        due("shape", x.shape(9, 32, 8, 2, 4), OUTSIDE);
        due("shape", x.shape(4, 7, 7, 2, 4), OUTSIDE);
        due("shape", x.shape(4, 32, 33, 2, 4), OUTSIDE);
        due("shape", x.shape(4, 32, 8, 8, 4), OUTSIDE);
        due("shape", x.shape(4, 32, 8, 2, 13), OUTSIDE);
    }

    @Sentence(at = "Terms", says = "Calls answer, the first of these that fits")
    private static void outsideAndStateAheadOfRoom() {
        HotKeys x = withFolds(0, 0, 0, 0, 0, 0);
        due("fold of no kind", x.fold(8, true), OUTSIDE);
        due("fold", x.fold(0, true), ROOM);
        x.split(0, 2);
        due("fold while a key is split", x.fold(0, true), STATE);
        x.back(0);
        due("fold", x.fold(0, true), ROOM);
        x.mark();
        due("fold behind a mark", x.fold(0, true), STATE);
    }

    @Sentence(at = "Terms", says = "then nothing changes.")
    private static void unknownChangesNothing() {
        refused("row(100, 1)", SentenceTests::busy, x -> x.row(100, 1), UNKNOWN);
        refused("split(-1, 2)", SentenceTests::busy, x -> x.split(-1, 2), UNKNOWN);
        refused("back(100)", SentenceTests::busy, x -> x.back(100), UNKNOWN);
        refused("small(-1, 1)", SentenceTests::busy, x -> x.small(-1, 1), UNKNOWN);
        refused("timer(100, 55)", SentenceTests::busy, x -> x.timer(100, 55), UNKNOWN);
        refused("restore(1)", SentenceTests::busy, x -> x.restore(1), UNKNOWN);
        refused("restore(-1)", SentenceTests::busy, x -> x.restore(-1), UNKNOWN);
    }

    @Sentence(at = "Terms", says = "then nothing changes.")
    private static void outsideChangesNothing() {
        refused("row(5, 1001)", SentenceTests::busy, x -> x.row(5, 1001), OUTSIDE);
        refused("split(7, 5)", SentenceTests::busy, x -> x.split(7, 5), OUTSIDE);
        refused("split(7, 1)", SentenceTests::busy, x -> x.split(7, 1), OUTSIDE);
        refused("small(5, 1001)", SentenceTests::busy, x -> x.small(5, 1001), OUTSIDE);
        refused("timer(5, 4)", SentenceTests::busy, x -> x.timer(5, 4), OUTSIDE);
        refused("timer(5, 1000001)", SentenceTests::busy, x -> x.timer(5, 1000001), OUTSIDE);
        refused("tick(3)", SentenceTests::busy, x -> x.tick(3), OUTSIDE);
        refused("tick(1000001)", SentenceTests::busy, x -> x.tick(1000001), OUTSIDE);
        refused("fold(8)", SentenceTests::busy, x -> x.fold(8, true), OUTSIDE);
        refused("shape of 9 places", SentenceTests::busy, x -> x.shape(9, 8, 1, 0, 1), OUTSIDE);
    }

    @Sentence(at = "Terms", says = "then nothing changes.")
    private static void shapeOutsideChangesNothing() {
        ToLongBiFunction<HotKeys, int[]> shape = (x, n) -> x.shape(n[0], n[1], n[2], n[3], n[4]);
        int[][] wrong = {{9, 8, 1, 0, 1}, {2, 201, 1, 0, 1}, {2, 8, 9, 0, 1}, {2, 8, 1, 1, 1},
            {2, 8, 1, 0, 13}};
        for (int[] n : wrong) {
            refused("a wrong shape", TermsEdgesTest::withoutRows, x -> shape.applyAsLong(x, n),
                    OUTSIDE);
        }
    }

    private static HotKeys withoutRows() {
        HotKeys x = withFolds(COUNT, LAST);
        x.small(5, 2);
        x.timer(5, 3);
        x.mark();
        x.split(5, 4);
        x.split(9, 3);
        return x;
    }

    @Sentence(at = "Terms", says = "then nothing changes.")
    private static void stateChangesNothing() {
        refused("split(9, 4)", SentenceTests::busy, x -> x.split(9, 4), STATE);
        refused("back(7)", SentenceTests::busy, x -> x.back(7), STATE);
        refused("fold(0)", SentenceTests::busy, x -> x.fold(0, true), STATE);
        refused("shape(2, 8, 1, 0, 1)", SentenceTests::busy, x -> x.shape(2, 8, 1, 0, 1), STATE);
        refused("fold(0) while split", TermsEdgesTest::withoutRows, x -> x.fold(0, true), STATE);
    }

    @Sentence(at = "Terms", says = "then nothing changes.")
    private static void roomChangesNothing() {
        refused("a small row more", TermsEdgesTest::withSmallRows, x -> x.small(5, 7), ROOM);
        refused("a timer more", TermsEdgesTest::withTimers, x -> x.timer(5, 55), ROOM);
        refused("a mark more", TermsEdgesTest::withMarks, x -> x.mark(), ROOM);
        refused("a fold more", () -> withFolds(0, 1, 2, 3, 4, 5), x -> x.fold(0, true), ROOM);
    }

    private static HotKeys withSmallRows() {
        HotKeys x = busy();
        for (int i = 2; i < 60; i++) {
            x.small(i, i);
        }
        return x;
    }

    private static HotKeys withTimers() {
        HotKeys x = busy();
        for (int i = 2; i < 40; i++) {
            x.timer(i, 70 - i % 7);
        }
        return x;
    }

    private static HotKeys withMarks() {
        HotKeys x = busy();
        for (int i = 1; i < 4; i++) {
            x.row(5, i);
            x.mark();
        }
        return x;
    }

    @Sentence(at = "Terms", says = "then nothing changes.")
    private static void rowWithoutRoomChangesNothing() {
        HotKeys x = withFolds(SUM);
        x.small(1, 1);
        rows(x, 1, 450);
        long[] before = {x.state(0, 1), x.out(), x.load(0), x.load(1), x.load(2), x.load(3),
            x.told(0), x.told(1), x.told(2), x.told(5), x.counter(0, 1), x.counter(1, 0)};
        due("a row more", x.row(1, 1), ROOM);
        due("of another key", x.row(2, 1), ROOM);
        long[] after = {x.state(0, 1), x.out(), x.load(0), x.load(1), x.load(2), x.load(3),
            x.told(0), x.told(1), x.told(2), x.told(5), x.counter(0, 1), x.counter(1, 0)};
        for (int i = 0; i < before.length; i++) {
            due("answer " + i + " after it", after[i], before[i]);
        }
    }

    @Sentence(at = "Terms",
            says = "(What tells a STATE answers NOTHING in place of all these.)")
    private static void whatTellsAStateAnswersNothing() {
        HotKeys x = withFolds(COUNT, SUM);
        x.timer(1, 1);
        x.tick(1);
        due("state of fold 1", x.state(1, 1), 0);
        due("state of fold 2", x.state(2, 1), NOTHING);
        due("state of fold -1", x.state(-1, 1), NOTHING);
        due("state of fold 6", x.state(6, 1), NOTHING);
        due("state of no key", x.state(0, 100), NOTHING);
        due("state of neither", x.state(Integer.MAX_VALUE, Integer.MIN_VALUE), NOTHING);
        due("part of fold 2", x.part(2, 1, 0), NOTHING);
        due("part of fold -1", x.part(-1, 1, 0), NOTHING);
        due("part of no key", x.part(0, -1, 0), NOTHING);
        due("part -1", x.part(0, 1, -1), NOTHING);
        due("part 1 of one", x.part(0, 1, 1), NOTHING);
        due("log of row 1", x.log(1, 2), NOTHING);
        due("log of row -1", x.log(-1, 2), NOTHING);
        due("log of what 8", x.log(0, 8), NOTHING);
        due("log of what -1", x.log(0, -1), NOTHING);
        due("log of neither", x.log(Integer.MIN_VALUE, Integer.MAX_VALUE), NOTHING);
    }

    // 1: folds.

    @Sentence(at = "Terms 1", says = "FOLDS, 6 at most")
    private static void folds6AtMost() {
        HotKeys x = new HotKeys();
        for (int i = 0; i < 6; i++) {
            due("fold " + i, x.fold(COUNT, true), i);
        }
        due("a seventh", x.fold(COUNT, true), ROOM);
        due("six", x.told(10), 6);
        x.row(1, 1);
        due("the sixth one's state", x.state(5, 1), 1);
        due("there is no seventh", x.state(6, 1), NOTHING);
    }

    @Sentence(at = "Terms 1", says = "are told ahead of rows and MARKS.")
    private static void foldsAheadOfRowsAndMarks() {
        HotKeys x = new HotKeys();
        due("ahead of rows", x.fold(COUNT, true), 0);
        x.row(1, 1);
        due("behind a row", x.fold(COUNT, true), STATE);
        HotKeys y = new HotKeys();
        due("ahead of marks", y.fold(COUNT, true), 0);
        y.mark();
        due("behind a mark", y.fold(COUNT, true), STATE);
    }

    @Sentence(at = "Terms 1", says = "Each has a STATE for each KEY, EMPTY at first")
    private static void aStateForEachKey() {
        HotKeys x = withFolds(COUNT);
        for (int key = 0; key < 100; key++) {
            due("empty " + key, x.state(0, key), 0);
        }
        x.row(0, 1);
        x.row(99, 1);
        x.row(99, 1);
        for (int key = 0; key < 100; key++) {
            due("key " + key, x.state(0, key), key == 0 ? 1 : key == 99 ? 2 : 0);
        }
    }

    @Sentence(at = "Terms 1", says = "0 COUNT: one more.")
    private static void countIsOneMore() {
        HotKeys x = withFolds(COUNT);
        int[] values = {0, -1000, 1000};
        for (int i = 0; i < values.length; i++) {
            x.row(1, values[i]);
            due("after " + values[i], x.state(0, 1), i + 1);
        }
    }

    @Sentence(at = "Terms 1", says = "1 SUM: v more.")
    private static void sumIsVMore() {
        HotKeys x = withFolds(SUM);
        int[] values = {0, -1000, 7, 1000};
        long[] sums = {0, -1000, -993, 7};
        for (int i = 0; i < values.length; i++) {
            x.row(1, values[i]);
            due("after " + values[i], x.state(0, 1), sums[i]);
        }
    }

    @Sentence(at = "Terms 1", says = "2 LEAST.")
    private static void least() {
        HotKeys x = withFolds(LEAST);
        int[] values = {1000, 1000, 0, 5, -1000, -999};
        long[] least = {1000, 1000, 0, 0, -1000, -1000};
        for (int i = 0; i < values.length; i++) {
            x.row(1, values[i]);
            due("after " + values[i], x.state(0, 1), least[i]);
        }
    }

    @Sentence(at = "Terms 1", says = "3 GREATEST.")
    private static void greatest() {
        HotKeys x = withFolds(GREATEST);
        int[] values = {-1000, -1000, 0, -5, 1000, 999};
        long[] greatest = {-1000, -1000, 0, 0, 1000, 1000};
        for (int i = 0; i < values.length; i++) {
            x.row(1, values[i]);
            due("after " + values[i], x.state(0, 1), greatest[i]);
        }
    }

    @Sentence(at = "Terms 1", says = "4 SET: bit v mod 16 (0 to 15) is there.")
    private static void setBitIsVMod16() {
        int[] values = {0, 15, 16, 17, -1, -15, -16, -17, 1000, -1000, 999, -999};
        int[] bits = {0, 15, 0, 1, 15, 1, 0, 15, 8, 8, 7, 9};
        HotKeys all = withFolds(SET);
        for (int i = 0; i < values.length; i++) {
            HotKeys x = withFolds(SET);
            x.row(1, values[i]);
            due("bit of " + values[i], x.state(0, 1), 1 << bits[i]);
            x.row(1, values[i]);
            due("twice " + values[i], x.state(0, 1), 1 << bits[i]);
        }
        for (int v = -1; v > -17; v--) {
            all.row(1, v);
        }
        due("all bits", all.state(0, 1), 65535);
    }

    @Sentence(at = "Terms 1", says = "5 LAST: v.")
    private static void lastIsV() {
        HotKeys x = withFolds(LAST);
        int[] values = {1000, -1000, 0, 0, 3};
        for (int v : values) {
            x.row(1, v);
            due("after " + v, x.state(0, 1), v);
        }
        x.row(2, 9);
        due("another key's row", x.state(0, 1), 3);
    }

    @Sentence(at = "Terms 1",
            says = "6 CHAIN: 31 times the STATE and v, in 32 bits with sign, wrapping.")
    private static void chainWraps() {
        HotKeys x = withFolds(CHAIN);
        int[] values = {1000, 1000, 1000, 1000, 1000, 1000, -1000, 1};
        long[] chain = {1217, 38727, 1201537, 37248647, 1154709057, 1436243399, 1573871409,
            1545373424};
        for (int i = 0; i < values.length; i++) {
            x.row(1, values[i]);
            due("after " + (i + 1) + " rows", x.state(0, 1), chain[i]);
        }
        HotKeys y = withFolds(CHAIN);
        int[] zeros = {217, 6727, 208537, 6464647, 200404057, 1917558471, -685229543, 232720647,
            -1375594535};
        for (int i = 0; i < zeros.length; i++) {
            y.row(1, 0);
            due("7 times 31, " + (i + 1) + " times", y.state(0, 1), zeros[i]);
        }
    }

    @Sentence(at = "Terms 1",
            says = "7 FALLS: one more if v is less than the VALUE folded before it.")
    private static void falls() {
        HotKeys x = withFolds(FALLS);
        int[] values = {-1000, -1000, -999, -1000, 1000, 999, 999, 998};
        long[] falls = {0, 0, 0, 1, 1, 2, 2, 3};
        for (int i = 0; i < values.length; i++) {
            x.row(1, values[i]);
            due("after " + (i + 1) + " rows", x.state(0, 1), falls[i]);
            x.row(2, -values[i]);
        }
    }

    @Sentence(at = "Terms 1", says = "EMPTY are: 0 (COUNT, SUM, SET, FALLS), 7 (CHAIN), "
            + "NOTHING (LEAST, GREATEST, LAST).")
    private static void emptyStates() {
        long[] empty = {0, 0, NOTHING, NOTHING, 0, NOTHING, 7, 0};
        for (int kind = 0; kind < 8; kind++) {
            HotKeys x = withFolds(kind);
            due("kind " + kind, x.state(0, 50), empty[kind]);
            due("its part", x.part(0, 50, 0), empty[kind]);
        }
    }

    /** The state of two parts, by a fold of a kind, with a value in each. */
    private static long joined(int kind, int ofPart0, int ofPart1) {
        HotKeys x = calm(4, kind);
        x.split(1, 2);
        rowOfPart(x, 1, 0, ofPart0);
        rowOfPart(x, 1, 1, ofPart1);
        long state = x.state(0, 1);
        x.back(1);
        due("kind " + kind + ", joined for good", x.state(0, 1), state);
        return state;
    }

    @Sentence(at = "Terms 1", says = "of COUNT and SUM they are added")
    private static void countAndSumAreAdded() {
        due("count", joined(COUNT, 5, 6), 2);
        due("sum", joined(SUM, 5, -6), -1);
        due("sum of the greatest", joined(SUM, 1000, 1000), 2000);
        due("sum to nought", joined(SUM, 1000, -1000), 0);
    }

    @Sentence(at = "Terms 1", says = "of LEAST the lesser")
    private static void leastIsTheLesser() {
        due("in part 0", joined(LEAST, -1000, 1000), -1000);
        due("in part 1", joined(LEAST, 1000, -1000), -1000);
        due("alike", joined(LEAST, 3, 3), 3);
    }

    @Sentence(at = "Terms 1", says = "of GREATEST the greater")
    private static void greatestIsTheGreater() {
        due("in part 0", joined(GREATEST, 1000, -1000), 1000);
        due("in part 1", joined(GREATEST, -1000, 1000), 1000);
        due("alike", joined(GREATEST, -3, -3), -3);
    }

    @Sentence(at = "Terms 1", says = "of SET all bits of both")
    private static void setHasAllBitsOfBoth() {
        due("two bits", joined(SET, 0, 15), 1 + (1 << 15));
        due("the same bit", joined(SET, -1, 15), 1 << 15);
    }

    @Sentence(at = "Terms 1", says = "of LAST that of the row that came later")
    private static void lastIsOfTheLaterRow() {
        due("of part 1", joined(LAST, 9, 3), 3);
        HotKeys x = calm(4, LAST);
        x.split(1, 4);
        int[] parts = {3, 1, 2, 0, 3, 0, 2, 1, 1};
        for (int i = 0; i < parts.length; i++) {
            rowOfPart(x, 1, parts[i], 100 - i);
            due("of part " + parts[i], x.state(0, 1), 100 - i);
        }
    }

    @Sentence(at = "Terms 1", says = "of LAST that of the row that came later")
    private static void lastIsOfTheLaterRowAfterABack() {
        HotKeys x = calm(4, LAST);
        x.split(1, 2);
        rowOfPart(x, 1, 0, 5);
        rowOfPart(x, 1, 1, 6);
        x.back(1);
        due("of part 1", x.state(0, 1), 6);
        x.split(1, 2);
        rowOfPart(x, 1, 1, 7);
        due("of part 1 again", x.state(0, 1), 7);
        rowOfPart(x, 1, 0, 8);
        due("of part 0", x.state(0, 1), 8);
        x.back(1);
        due("back again", x.state(0, 1), 8);
    }

    @Sentence(at = "Terms 1", says = "an EMPTY one leaves the other.")
    private static void anEmptyOneLeavesTheOther() {
        long[] want = {1, -4, -4, -4, 1 << 12, -4};
        for (int kind = COUNT; kind <= LAST; kind++) {
            for (int part = 0; part < 3; part++) {
                HotKeys x = calm(4, kind);
                x.split(1, 3);
                rowOfPart(x, 1, part, -4);
                due("kind " + kind + ", part " + part, x.state(0, 1), want[kind]);
                x.back(1);
                due("kind " + kind + " for good", x.state(0, 1), want[kind]);
            }
        }
    }

    @Sentence(at = "Terms 1", says = "an EMPTY one leaves the other.")
    private static void emptyOnesStayEmpty() {
        long[] empty = {0, 0, NOTHING, NOTHING, 0, NOTHING};
        for (int kind = COUNT; kind <= LAST; kind++) {
            HotKeys x = calm(4, kind);
            x.split(1, 4);
            due("kind " + kind, x.state(0, 1), empty[kind]);
            x.back(1);
            due("kind " + kind + " for good", x.state(0, 1), empty[kind]);
        }
    }

    @Sentence(at = "Terms 1", says = "CHAIN and FALLS can't be joined.")
    private static void chainAndFallsCantBeJoined() {
        due("chain", withFolds(CHAIN).split(1, 2), STATE);
        due("falls", withFolds(FALLS).split(1, 2), STATE);
        due("chain behind others", withFolds(COUNT, SUM, CHAIN).split(1, 2), STATE);
        due("falls ahead of others", withFolds(FALLS, COUNT, SUM).split(1, 2), STATE);
    }

    // 2: rows.

    @Sentence(at = "Terms 2", says = "ROWS are numbered 0, 1, .. as they come")
    private static void rowsAreNumberedFrom0() {
        HotKeys x = calm(8);
        x.split(8, 8);
        due("row 0 is of part 0", x.row(8, 0), 0);
        due("row 1 is of part 7", x.row(8, 0), 7);
        x.row(100, 0);
        x.row(8, 1001);
        due("refused ones have no number: row 2 is of part 6", x.row(8, 0), 6);
        x.row(0, 0);
        due("rows of all keys have: row 4 is of part 5", x.row(8, 0), 5);
    }

    @Sentence(at = "Terms 2", says = "450 at most.")
    private static void rows450AtMost() {
        HotKeys x = withFolds(COUNT);
        for (int n = 0; n < 449; n++) {
            x.row(n % 100, 0);
        }
        due("the 450th", x.row(49, 0), 1);
        due("450 came", x.told(0), 450);
        due("the 451st", x.row(50, 0), ROOM);
        due("450 came", x.told(0), 450);
        due("of key 50", x.state(0, 50), 4);
    }

    @Sentence(at = "Terms 2", says = "A row of a KEY is folded, by all FOLDS")
    private static void byAllFolds() {
        HotKeys x = withFolds(COUNT, SUM, LEAST, GREATEST, SET, LAST);
        x.row(1, -4);
        long[] want = {1, -4, -4, -4, 1 << 12, -4};
        for (int fold = 0; fold < 6; fold++) {
            due("fold " + fold, x.state(fold, 1), want[fold]);
        }
        HotKeys y = withFolds(FALLS, CHAIN, FALLS);
        y.row(1, 5);
        y.row(1, 4);
        due("falls", y.state(0, 1), 1);
        due("chain", y.state(1, 1), 31 * (31 * 7 + 5) + 4);
        due("falls again", y.state(2, 1), 1);
        due("without folds", new HotKeys().row(1, 5), 1);
    }

    @Sentence(at = "Terms 2", says = "at the PLACE of its PART (4; HOME, if the KEY is one).")
    private static void atThePlaceOfItsPart() {
        HotKeys x = calm(4, COUNT);
        for (int n = 0; n < 4; n++) {
            due("one", x.row(7, 0), 3);
        }
        x.split(7, 4);
        // Rows 4 to 8 are of parts 1, 1, 0, 0, 3.
        int[] places = {0, 0, 3, 3, 2};
        for (int place : places) {
            due("split", x.row(7, 0), place);
        }
        due("part 0", x.part(0, 7, 0), 6);
        due("part 1", x.part(0, 7, 1), 2);
        due("part 2", x.part(0, 7, 2), 0);
        due("part 3", x.part(0, 7, 3), 1);
        x.back(7);
        due("one again", x.row(7, 0), 3);
    }

    @Sentence(at = "Terms 2", says = "There it meets each SMALL row of the KEY")
    private static void meetsEachSmallRowOfTheKey() {
        HotKeys x = calm(4);
        x.row(1, 5);
        due("none there yet", x.told(5), 0);
        x.small(1, 10);
        x.small(2, 100);
        x.small(1, 10);
        due("a small row meets no earlier row", x.told(5), 0);
        x.row(1, 5);
        due("both of key 1", x.told(5), 2);
        due("out", x.out(), 100);
        x.row(3, 5);
        due("none of key 3", x.told(5), 2);
        due("out", x.out(), 100);
    }

    @Sentence(at = "Terms 2", says = "There it meets each SMALL row of the KEY")
    private static void meetsSmallRowsAtAnyPart() {
        HotKeys x = calm(4);
        x.small(1, 10);
        x.split(1, 4);
        x.small(1, 1);
        for (int part = 0; part < 4; part++) {
            rowOfPart(x, 1, part, 1);
            due("matches with part " + part, x.told(5), 2 * (part + 1));
            due("out with part " + part, x.out(), 11 * (part + 1));
        }
    }

    @Sentence(at = "Terms 2", says = "MATCHES is one more, OUT grows by VALUE times WEIGHT.")
    private static void outGrowsByValueTimesWeight() {
        HotKeys x = new HotKeys();
        x.small(1, 1000);
        x.row(1, 1000);
        due("greatest", x.out(), 1000000);
        x.row(1, -1000);
        due("least", x.out(), 0);
        x.row(1, 0);
        due("nought", x.out(), 0);
        due("nought matches too", x.told(5), 3);
        HotKeys y = new HotKeys();
        y.small(1, 0);
        y.small(1, -1000);
        y.row(1, 7);
        due("below nought", y.out(), -7000);
        due("a weight of nought matches too", y.told(5), 2);
    }

    @Sentence(at = "Terms 2", says = "with the R-th row of a ROUND the ROUND ends.")
    private static void roundEndsWithItsLastRow() {
        HotKeys x = new HotKeys();
        x.shape(4, 8, 8, 0, 2);
        for (int n = 1; n <= 25; n++) {
            x.row(1, 0);
            due("rows of the round after " + n, x.told(1), n % 8);
            due("rounds after " + n, x.told(2), n / 8);
        }
    }

    @Sentence(at = "Terms 2", says = "Then it is counted (3); with the R-th row")
    private static void lastRowIsCountedAndFoldedAheadOfTheEnd() {
        HotKeys x = withFolds(COUNT);
        x.shape(4, 8, 8, 0, 2);
        rows(x, 1, 7);
        due("not yet", x.parts(1), 1);
        due("the eighth is done at home", x.row(1, 0), 1);
        due("it was the eighth that is counted", x.parts(1), 2);
        due("folded ahead of the split", x.part(0, 1, 0), 8);
        due("done at home", x.load(1), 8);
        due("nothing in part 1", x.part(0, 1, 1), 0);
    }

    // 3: counters.

    private static void dueCounter(HotKeys x, int i, int key, int count, int error) {
        due("counter " + i + ", key", x.counter(i, 0), key);
        due("counter " + i + ", count", x.counter(i, 1), count);
        due("counter " + i + ", error", x.counter(i, 2), error);
    }

    /** One row of each of the keys. */
    private static void rowsOfKeys(HotKeys x, int... keys) {
        for (int key : keys) {
            x.row(key, 0);
        }
    }

    private static HotKeys shaped(int places, int round, int threshold, int slack, int m) {
        HotKeys x = withFolds(COUNT);
        x.shape(places, round, threshold, slack, m);
        return x;
    }

    @Sentence(at = "Terms 3", says = "A row whose KEY has a counter: COUNT is one more.")
    private static void countOfACounterIsOneMore() {
        HotKeys x = shaped(4, 20, 20, 0, 2);
        rowsOfKeys(x, 1, 2, 2, 1);
        dueCounter(x, 0, 1, 2, 0);
        dueCounter(x, 1, 2, 2, 0);
        rowsOfKeys(x, 3, 3);
        dueCounter(x, 0, 3, 4, 2);
        dueCounter(x, 1, 2, 2, 0);
    }

    @Sentence(at = "Terms 3",
            says = "Otherwise the first empty counter gets KEY, COUNT 1, ERROR 0")
    private static void firstEmptyCounterGetsTheKey() {
        HotKeys x = shaped(4, 20, 20, 0, 3);
        rowsOfKeys(x, 0);
        dueCounter(x, 0, 0, 1, 0);
        due("the second is empty", x.counter(1, 0), NONE);
        rowsOfKeys(x, 99);
        dueCounter(x, 1, 99, 1, 0);
        due("the third is empty", x.counter(2, 0), NONE);
        rowsOfKeys(x, 50);
        dueCounter(x, 0, 0, 1, 0);
        dueCounter(x, 1, 99, 1, 0);
        dueCounter(x, 2, 50, 1, 0);
    }

    @Sentence(at = "Terms 3",
            says = "Otherwise the first empty counter gets KEY, COUNT 1, ERROR 0")
    private static void counterOfTheRoundBeforeIsForgotten() {
        HotKeys x = shaped(4, 8, 8, 0, 1);
        rowsOfKeys(x, 1, 1, 1, 2, 2, 1, 1, 2);
        due("empty", x.counter(0, 0), NONE);
        rowsOfKeys(x, 3);
        dueCounter(x, 0, 3, 1, 0);
    }

    @Sentence(at = "Terms 3", says = "if none is empty, that with the least COUNT")
    private static void leastCountGetsTheKey() {
        HotKeys x = shaped(4, 20, 20, 0, 3);
        rowsOfKeys(x, 1, 1, 1, 2, 2, 3, 3, 3, 3, 4);
        dueCounter(x, 0, 1, 3, 0);
        dueCounter(x, 1, 4, 3, 2);
        dueCounter(x, 2, 3, 4, 0);
        HotKeys y = shaped(4, 20, 20, 0, 3);
        rowsOfKeys(y, 1, 1, 2, 2, 3, 4);
        dueCounter(y, 0, 1, 2, 0);
        dueCounter(y, 1, 2, 2, 0);
        dueCounter(y, 2, 4, 2, 1);
    }

    @Sentence(at = "Terms 3", says = "of several the first one, gets the KEY")
    private static void ofSeveralTheFirstOne() {
        HotKeys x = shaped(4, 20, 20, 0, 3);
        rowsOfKeys(x, 1, 2, 3, 4);
        dueCounter(x, 0, 4, 2, 1);
        dueCounter(x, 1, 2, 1, 0);
        rowsOfKeys(x, 5);
        dueCounter(x, 0, 4, 2, 1);
        dueCounter(x, 1, 5, 2, 1);
        dueCounter(x, 2, 3, 1, 0);
    }

    @Sentence(at = "Terms 3", says = "as ERROR its COUNT, and COUNT is one more.")
    private static void errorIsTheCountBefore() {
        HotKeys x = shaped(4, 20, 20, 0, 1);
        rowsOfKeys(x, 1);
        dueCounter(x, 0, 1, 1, 0);
        rowsOfKeys(x, 2);
        dueCounter(x, 0, 2, 2, 1);
        rowsOfKeys(x, 2, 2, 1);
        dueCounter(x, 0, 1, 5, 4);
    }

    @Sentence(at = "Terms 3",
            says = "COUNTERS 0 to M - 1, each empty or with a KEY, a COUNT, an ERROR.")
    private static void countersFrom0ToMLess1() {
        for (int m = 1; m <= 12; m++) {
            HotKeys x = shaped(4, 20, 20, 0, m);
            for (int i = 0; i < m; i++) {
                due("empty", x.counter(i, 0), NONE);
            }
            for (int key = 0; key < m; key++) {
                x.row(key, 0);
            }
            for (int i = 0; i < m; i++) {
                dueCounter(x, i, i, 1, 0);
            }
            due("no more than " + m, x.counter(m, 0), OUTSIDE);
            x.row(50, 0);
            dueCounter(x, 0, 50, 2, 1);
        }
    }

    @Sentence(at = "Terms 3",
            says = "(So a KEY came COUNT less ERROR times at least, COUNT times at most.)")
    private static void aKeyCameWithinItsCounter() {
        for (int m = 1; m <= 4; m++) {
            HotKeys x = shaped(4, 200, 200, 0, m);
            int[] came = new int[7];
            for (int n = 0; n < 60; n++) {
                int key = n * n % 7;
                x.row(key, 0);
                came[key]++;
                for (int i = 0; i < m && n % 6 == 0; i++) {
                    int of = x.counter(i, 0);
                    int count = x.counter(i, 1);
                    int least = count - x.counter(i, 2);
                    boolean fits = of == NONE || least <= came[of] && came[of] <= count;
                    due("counter " + i + " of " + m + " after row " + n, fits ? 1 : 0, 1);
                }
            }
        }
    }

    @Sentence(at = "Terms 3", says = "each KEY that came T times at least, surely")
    private static void splitWithTRows() {
        HotKeys x = shaped(4, 10, 4, 0, 3);
        rowsOfKeys(x, 1, 1, 1, 1, 2, 2, 2, 3, 3, 3);
        due("4 of 4", x.parts(1), 2);
        due("3 of 4", x.parts(2), 1);
        due("3 of 4", x.parts(3), 1);
        due("one flip", x.told(3), 1);
    }

    @Sentence(at = "Terms 3", says = "each KEY that came T times at least, surely")
    private static void splitBySureRowsAlone() {
        HotKeys x = shaped(4, 8, 3, 0, 1);
        rowsOfKeys(x, 1, 1, 1, 1, 1, 1, 2, 2);
        due("count 8, error 6", x.parts(2), 1);
        due("without a counter", x.parts(1), 1);
        due("none passed over", x.told(4), 0);
        rowsOfKeys(x, 1, 1, 1, 1, 1, 2, 2, 2);
        due("count 8, error 5", x.parts(2), 3);
        due("without a counter", x.parts(1), 1);
    }

    @Sentence(at = "Terms 3", says = "A ROUND ends: counter by counter, each KEY")
    private static void splitAllKeysOfCounters() {
        HotKeys x = shaped(4, 12, 1, 0, 12);
        rowsOfKeys(x, 0, 99, 1, 98, 2, 97, 3, 96, 4, 95, 5, 94);
        due("all", x.told(12), 12);
        due("key 0", x.parts(0), 2);
        due("key 94, of the last counter", x.parts(94), 2);
    }

    @Sentence(at = "Terms 3", says = "and is one, is SPLIT (4)")
    private static void aSplitKeyIsNotSplitAgain() {
        HotKeys x = shaped(4, 8, 2, 0, 1);
        x.split(1, 2);
        rows(x, 1, 8);
        due("two, not four", x.parts(1), 2);
        due("no flip", x.told(3), 0);
        due("nor passed over", x.told(4), 0);
        due("its parts hold rows", x.part(0, 1, 1), 3);
    }

    @Sentence(at = "Terms 3", says = "into the lesser of P and COUNT / T + 1 (cut) PARTS")
    private static void partsAreCountByThresholdAndOne() {
        HotKeys x = shaped(8, 30, 4, 0, 5);
        rows(x, 1, 4);
        rows(x, 2, 7);
        rows(x, 3, 8);
        rows(x, 4, 11);
        due("4 / 4 + 1", x.parts(1), 2);
        due("7 / 4 + 1", x.parts(2), 2);
        due("8 / 4 + 1", x.parts(3), 3);
        due("11 / 4 + 1", x.parts(4), 3);
    }

    @Sentence(at = "Terms 3", says = "into the lesser of P and COUNT / T + 1 (cut) PARTS")
    private static void partsArePAtMost() {
        int[][] cases = {{2, 8, 8, 2}, {2, 8, 4, 2}, {3, 8, 4, 3}, {4, 8, 4, 3}, {8, 8, 1, 8},
            {7, 12, 2, 7}, {8, 14, 2, 8}, {8, 12, 2, 7}};
        for (int[] c : cases) {
            HotKeys x = shaped(c[0], c[1], c[2], 0, 1);
            rows(x, 1, c[1]);
            due(c[0] + " places, " + c[1] + " / " + c[2] + " + 1", x.parts(1), c[3]);
        }
    }

    @Sentence(at = "Terms 3", says = "into the lesser of P and COUNT / T + 1 (cut) PARTS")
    private static void partsAreByCountWithItsError() {
        HotKeys x = shaped(8, 9, 3, 0, 1);
        rowsOfKeys(x, 1, 1, 1, 1, 1, 1, 2, 2, 2);
        due("count 9, error 6", x.parts(2), 4);
    }

    @Sentence(at = "Terms 3", says = "if it can't be, it is PASSED OVER.")
    private static void passedOver() {
        HotKeys x = withFolds(COUNT);
        x.fold(SUM, false);
        x.shape(4, 8, 3, 0, 3);
        rowsOfKeys(x, 1, 1, 1, 2, 2, 2, 3);
        due("not yet", x.told(4), 0);
        rowsOfKeys(x, 3);
        due("keys 1 and 2, not 3", x.told(4), 2);
        due("one", x.parts(1), 1);
        due("no flip", x.told(3), 0);
        rows(x, 1, 8);
        due("again", x.told(4), 3);
        HotKeys y = withFolds(CHAIN);
        y.shape(4, 8, 8, 0, 3);
        rows(y, 1, 8);
        due("a chain", y.told(4), 1);
        due("a call that can't split passes none over", y.split(1, 2), STATE);
        due("still", y.told(4), 1);
    }

    @Sentence(at = "Terms 3",
            says = "that is split and surely came less often than T - S times")
    private static void backBelowThresholdLessSlack() {
        HotKeys x = shaped(4, 10, 5, 2, 4);
        x.split(1, 3);
        x.split(2, 3);
        rowsOfKeys(x, 1, 1, 1, 2, 2, 3, 3, 3, 3);
        due("not ahead of the end", x.parts(2), 3);
        rowsOfKeys(x, 3);
        due("3 is not less than 5 - 2", x.parts(1), 3);
        due("2 is less", x.parts(2), 1);
        due("a split and a back", x.told(3), 2);
    }

    @Sentence(at = "Terms 3",
            says = "that is split and surely came less often than T - S times")
    private static void backWithoutSlack() {
        HotKeys x = shaped(4, 8, 4, 0, 2);
        x.split(1, 3);
        x.split(2, 3);
        rowsOfKeys(x, 1, 1, 1, 1, 2, 2, 2, 1);
        due("5 of 4", x.parts(1), 3);
        due("3 of 4", x.parts(2), 1);
        rowsOfKeys(x, 1, 1, 1, 1, 2, 2, 2, 2);
        due("4 is not less than 4", x.parts(1), 3);
        due("split again by the round", x.parts(2), 2);
    }

    @Sentence(at = "Terms 3", says = "Then each KEY, by numbers")
    private static void backOfTheFirstAndTheLastKey() {
        HotKeys x = shaped(4, 8, 2, 0, 2);
        x.split(0, 2);
        x.split(99, 2);
        x.split(50, 2);
        rows(x, 1, 8);
        due("key 0", x.parts(0), 1);
        due("key 99", x.parts(99), 1);
        due("key 50", x.parts(50), 1);
        due("key 1 was split", x.parts(1), 4);
        due("four flips", x.told(3), 4);
    }

    @Sentence(at = "Terms 3", says = "(by its COUNT")
    private static void backByCountWithItsError() {
        HotKeys x = shaped(4, 8, 4, 0, 1);
        x.split(2, 3);
        rowsOfKeys(x, 1, 1, 1, 1, 1, 1, 1, 2);
        due("count 8, error 7", x.parts(2), 3);
        due("no flip", x.told(3), 0);
    }

    @Sentence(at = "Terms 3", says = "without a counter by the least COUNT")
    private static void backByTheLeastCount() {
        HotKeys x = shaped(4, 8, 4, 1, 2);
        x.split(9, 3);
        rowsOfKeys(x, 1, 1, 1, 2, 2, 2, 2, 2);
        due("least count 3 is not less than 4 - 1", x.parts(9), 3);
        rowsOfKeys(x, 1, 1, 2, 2, 2, 2, 2, 2);
        due("least count 2", x.parts(9), 1);
    }

    @Sentence(at = "Terms 3", says = "without a counter by the least COUNT")
    private static void backOfAKeyThatLostItsCounter() {
        HotKeys x = shaped(4, 8, 6, 0, 1);
        x.split(9, 3);
        rowsOfKeys(x, 9, 9, 9, 1, 1, 1, 1, 1);
        due("count 8 of key 1", x.parts(9), 3);
        HotKeys y = shaped(4, 8, 6, 0, 2);
        y.split(9, 3);
        rowsOfKeys(y, 9, 9, 9, 1, 1, 1, 1, 2);
        due("least count 4", y.parts(9), 1);
    }

    @Sentence(at = "Terms 3", says = "or 0, if one is empty) is joined BACK.")
    private static void backIfACounterIsEmpty() {
        HotKeys x = shaped(4, 8, 1, 0, 2);
        x.split(9, 3);
        rows(x, 1, 8);
        due("the second counter is empty", x.parts(9), 1);
        due("moved nothing", x.told(6), 0);
    }

    @Sentence(at = "Terms 3", says = "is joined BACK.")
    private static void backByRoundsJoinsAndMoves() {
        HotKeys x = withFolds(SUM, LAST);
        x.shape(4, 8, 4, 0, 2);
        x.split(1, 4);
        // Rows 0 to 2 are of parts 0, 3, 2.
        x.row(1, 5);
        x.row(1, 6);
        x.row(1, 7);
        rowsOfKeys(x, 2, 2, 2, 2, 2);
        due("one", x.parts(1), 1);
        due("joined sum", x.part(0, 1, 0), 18);
        due("joined last", x.part(1, 1, 0), 7);
        due("two parts moved", x.told(6), 2);
    }

    @Sentence(at = "Terms 3", says = "Then all counters are empty.")
    private static void thenAllCountersAreEmpty() {
        HotKeys x = shaped(4, 8, 8, 0, 3);
        rowsOfKeys(x, 1, 2, 3, 4, 5, 6, 7);
        due("not yet", x.counter(0, 0), 7);
        rowsOfKeys(x, 8);
        for (int i = 0; i < 3; i++) {
            due("key of " + i, x.counter(i, 0), NONE);
        }
        due("not hot", x.hot(8), 0);
        rowsOfKeys(x, 1, 1);
        dueCounter(x, 0, 1, 2, 0);
        due("the next one is empty", x.counter(1, 0), NONE);
    }

    @Sentence(at = "Terms 3", says = "FLIPS are all SPLITS and BACKS by ROUNDS.")
    private static void flipsAreByRoundsAlone() {
        HotKeys x = shaped(4, 8, 4, 0, 2);
        x.split(1, 2);
        x.back(1);
        x.split(1, 2);
        due("by calls", x.told(3), 0);
        rows(x, 2, 8);
        due("a split and a back", x.told(3), 2);
        x.back(2);
        due("a back by a call", x.told(3), 2);
        rows(x, 2, 8);
        due("a split", x.told(3), 3);
        rows(x, 3, 8);
        due("another split, and a back", x.told(3), 5);
    }

    // 4: parts.

    @Sentence(at = "Terms 4", says = "A KEY can be split if all FOLDS are DECLARED")
    private static void allFoldsMustBeDeclared() {
        due("without folds", new HotKeys().split(1, 2), 1);
        for (int fold = 0; fold < 6; fold++) {
            HotKeys x = new HotKeys();
            for (int i = 0; i < 6; i++) {
                x.fold(i, i != fold);
            }
            due("all but fold " + fold, x.split(1, 2), STATE);
            due("one", x.parts(1), 1);
        }
        due("all of them", withFolds(0, 1, 2, 3, 4, 5).split(1, 2), 1);
    }

    @Sentence(at = "Terms 4", says = "and of KINDS that can be joined.")
    private static void allKindsMustBeJoinable() {
        for (int kind = 0; kind < 8; kind++) {
            due("kind " + kind, withFolds(kind).split(1, 2), kind < CHAIN ? 1 : STATE);
            due("behind others", withFolds(0, 1, 2, 3, 4, kind).split(1, 2),
                    kind < CHAIN ? 1 : STATE);
            due("ahead of others", withFolds(kind, 0, 1, 2, 3, 4).split(1, 2),
                    kind < CHAIN ? 1 : STATE);
        }
    }

    @Sentence(at = "Terms 4", says = "SPLIT into q PARTS (2 to P)")
    private static void partsAre2ToP() {
        int[] beyond = {1, 0, -1, -2, Integer.MIN_VALUE, Integer.MAX_VALUE};
        for (int places = 2; places <= 8; places++) {
            HotKeys x = calm(places);
            for (int q : beyond) {
                due(q + " parts", x.split(1, q), OUTSIDE);
            }
            due("P and 1 parts", x.split(1, places + 1), OUTSIDE);
            due("P parts", x.split(1, places), 1);
            due("P parts", x.parts(1), places);
            due("2 parts", x.split(2, 2), 1);
            due("2 parts", x.parts(2), 2);
        }
    }

    @Sentence(at = "Terms 4", says = "PART 0 lies at HOME, with the STATES as they are")
    private static void part0HasTheStates() {
        HotKeys x = calm(4, COUNT, SUM, LEAST, GREATEST, SET, LAST);
        x.row(7, 5);
        x.row(7, -3);
        x.split(7, 4);
        long[] want = {2, 2, -3, 5, (1 << 5) + (1 << 13), -3};
        for (int fold = 0; fold < 6; fold++) {
            due("fold " + fold, x.part(fold, 7, 0), want[fold]);
            due("joined " + fold, x.state(fold, 7), want[fold]);
        }
        due("home", x.place(7, 0), 3);
    }

    @Sentence(at = "Terms 4", says = "PART i at PLACE (HOME + i) mod P, EMPTY.")
    private static void partIIsIBehindHome() {
        for (int places = 2; places <= 8; places++) {
            HotKeys x = calm(places);
            x.split(99, places);
            for (int i = 0; i < places; i++) {
                due("part " + i + " of " + places, x.place(99, i), (99 + i) % places);
            }
            due("no more", x.place(99, places), NONE);
        }
    }

    @Sentence(at = "Terms 4", says = "PART i at PLACE (HOME + i) mod P, EMPTY.")
    private static void newPartsAreEmpty() {
        HotKeys x = calm(8, COUNT, SUM, LEAST, GREATEST, SET, LAST);
        long[] empty = {0, 0, NOTHING, NOTHING, 0, NOTHING};
        x.split(7, 8);
        rows(x, 7, 16);
        x.back(7);
        x.split(7, 8);
        for (int part = 1; part < 8; part++) {
            for (int fold = 0; fold < 6; fold++) {
                due("part " + part + ", fold " + fold, x.part(fold, 7, part), empty[fold]);
            }
        }
    }

    @Sentence(at = "Terms 4", says = "Row n (of such a KEY) is of PART s mod q, s being "
            + "n * 0x9E3779B1, wrapping in 32 bits, shifted right by 16 without sign.")
    private static void rowNIsOfPart() {
        int[][] parts = {
            {0, 1, 0, 0, 1, 1, 0, 0, 1, 1, 0, 0, 1, 1, 0, 0, 1, 1, 0, 0, 1, 0, 0, 1},
            {0, 0, 2, 0, 2, 2, 2, 2, 2, 2, 1, 2, 1, 1, 1, 1, 1, 1, 0, 1, 0, 0, 0, 2},
            {0, 3, 2, 2, 1, 1, 0, 0, 3, 3, 2, 2, 1, 1, 0, 0, 3, 3, 2, 2, 1, 0, 0, 3},
            {0, 3, 0, 4, 1, 4, 2, 0, 3, 1, 3, 2, 4, 2, 0, 3, 1, 4, 1, 0, 2, 0, 3, 0},
            {0, 3, 2, 0, 5, 5, 2, 2, 5, 5, 4, 2, 1, 1, 4, 4, 1, 1, 0, 4, 3, 0, 0, 5},
            {0, 1, 0, 2, 1, 1, 2, 2, 3, 3, 2, 4, 3, 3, 4, 4, 5, 5, 4, 6, 5, 6, 6, 5},
            {0, 7, 6, 6, 5, 5, 4, 4, 3, 3, 2, 2, 1, 1, 0, 0, 7, 7, 6, 6, 5, 4, 4, 3},
        };
        for (int q = 2; q <= 8; q++) {
            HotKeys x = calm(8);
            x.split(0, q);
            for (int n = 0; n < 24; n++) {
                due("row " + n + " of " + q + " parts", x.row(0, 0), parts[q - 2][n]);
            }
        }
    }

    @Sentence(at = "Terms 4", says = "wrapping in 32 bits, shifted right by 16 without sign.")
    private static void rowNIsOfPartToTheLastRow() {
        for (int q = 2; q <= 8; q++) {
            HotKeys x = calm(8);
            x.split(0, q);
            for (int n = 0; n < 450; n++) {
                due("row " + n + " of " + q + " parts", x.row(0, 0), partOfRow(n, q));
            }
        }
    }

    @Sentence(at = "Terms 4",
            says = "At each PLACE of its PARTS lie all SMALL rows of the KEY")
    private static void smallRowsLieAtEachPart() {
        HotKeys x = calm(4);
        x.small(7, 1);
        x.small(7, 2);
        x.small(1, 3);
        int[] one = {0, 1, 0, 2};
        int[] split = {2, 3, 0, 2};
        for (int place = 0; place < 4; place++) {
            due("one, place " + place, x.copies(place), one[place]);
        }
        x.split(7, 3);
        for (int place = 0; place < 4; place++) {
            due("split, place " + place, x.copies(place), split[place]);
        }
        x.back(7);
        for (int place = 0; place < 4; place++) {
            due("one again, place " + place, x.copies(place), one[place]);
        }
    }

    @Sentence(at = "Terms 4", says = "also those that come later.")
    private static void laterSmallRowsLieAtEachPartToo() {
        HotKeys x = calm(4);
        x.split(7, 3);
        x.small(7, 1);
        int[] split = {1, 1, 0, 1};
        for (int place = 0; place < 4; place++) {
            due("place " + place, x.copies(place), split[place]);
        }
        due("counted once", x.told(13), 1);
        rowOfPart(x, 7, 2, 5);
        due("met once", x.told(5), 1);
    }

    @Sentence(at = "Terms 4",
            says = "Joined BACK the KEY is one again, at HOME, with its PARTS JOINED")
    private static void backIsOneAtHomeJoined() {
        HotKeys x = calm(4, COUNT, SUM, LEAST, GREATEST, SET, LAST);
        x.row(7, 1);
        x.split(7, 4);
        for (int part = 3; part >= 0; part--) {
            rowOfPart(x, 7, part, 10 * part);
        }
        x.back(7);
        long[] want = {5, 61, 0, 30, 1 << 1 | 1 << 14 | 1 << 4 | 1 << 10 | 1, 0};
        for (int fold = 0; fold < 6; fold++) {
            due("fold " + fold, x.part(fold, 7, 0), want[fold]);
            due("state " + fold, x.state(fold, 7), want[fold]);
            due("no part 1 of " + fold, x.part(fold, 7, 1), NOTHING);
        }
        due("one", x.parts(7), 1);
        due("home", x.place(7, 0), 3);
        due("no part 1", x.place(7, 1), NONE);
        due("rows at home", x.row(7, 0), 3);
    }

    @Sentence(at = "Terms 4",
            says = "each PART but the first one that some row was folded into")
    private static void movedArePartsWithRows() {
        HotKeys x = calm(4, COUNT);
        x.row(1, 0);
        x.split(1, 4);
        due("no row but of part 0, ahead of it", x.back(1), 0);
        x.split(1, 4);
        rowOfPart(x, 1, 0, 0);
        due("a row of part 0", x.back(1), 0);
        x.split(1, 4);
        rowOfPart(x, 1, 3, 0);
        due("a row of the last part", x.back(1), 1);
        x.split(1, 4);
        rowOfPart(x, 1, 1, 0);
        rowOfPart(x, 1, 1, 0);
        due("two rows of one part", x.back(1), 1);
        x.split(1, 4);
        for (int part = 0; part < 4; part++) {
            rowOfPart(x, 1, part, 0);
        }
        due("all parts", x.back(1), 3);
        due("all in all", x.told(6), 5);
    }

    @Sentence(at = "Terms 4", says = "(since it was made, or a timer rang) is MOVED.")
    private static void movedSinceItWasMade() {
        HotKeys x = calm(4, COUNT);
        x.split(1, 4);
        rows(x, 1, 16);
        due("all parts", x.back(1), 3);
        x.split(1, 4);
        due("made anew", x.back(1), 0);
        x.split(1, 2);
        rowOfPart(x, 1, 1, 0);
        x.mark();
        x.restore(0);
        x.split(1, 4);
        due("made anew after a restore", x.back(1), 0);
    }

    @Sentence(at = "Terms 4", says = "(since it was made, or a timer rang) is MOVED.")
    private static void movedSinceATimerRang() {
        HotKeys x = calm(4, COUNT);
        x.split(1, 4);
        rows(x, 1, 16);
        x.timer(2, 1);
        x.timer(1, 2);
        x.tick(1);
        due("that of another key", x.back(1), 3);
        x.split(1, 4);
        rows(x, 1, 16);
        x.tick(2);
        due("that of the key", x.back(1), 0);
        x.split(1, 4);
        rows(x, 1, 16);
        x.timer(1, 3);
        x.tick(3);
        rowOfPart(x, 1, 2, 0);
        due("a row behind it", x.back(1), 1);
        due("all in all", x.told(6), 4);
    }

    @Sentence(at = "Terms 4", says = "THE TREE by which PARTS are JOINED: those that are left, "
            + "in order, by twos, the second into the first")
    private static void treeByTwos() {
        int[][] joins = {{1}, {1, 19, 2}, {1, 19, 37, 55, 2, 38, 4}};
        int[] parts = {2, 4, 8};
        dueTrees(parts, joins);
    }

    @Sentence(at = "Terms 4", says = "(a last one alone stays); again till one is left.")
    private static void treeWithALastOneAlone() {
        int[][] joins = {{1, 2}, {1, 19, 2, 4}, {1, 19, 37, 2, 4}, {1, 19, 37, 2, 38, 4}};
        int[] parts = {3, 5, 6, 7};
        dueTrees(parts, joins);
    }

    private static void dueTrees(int[] parts, int[][] joins) {
        HotKeys x = calm(8);
        for (int i = 0; i < parts.length; i++) {
            int q = parts[i];
            x.split(q, q);
            due("as many joins as parts, less one", joins[i].length, q - 1);
            for (int k = 0; k < q - 1; k++) {
                due("join " + k + " of " + q, x.tree(q, k), joins[i][k]);
            }
            due("no more of " + q, x.tree(q, q - 1), NONE);
        }
    }

    // 5: timers.

    @Sentence(at = "Terms 5", says = "TIMERS, 40 at most that wait")
    private static void timers40AtMost() {
        HotKeys x = new HotKeys();
        for (int i = 1; i <= 40; i++) {
            due("timer " + i, x.timer(i, 100 - i), i);
        }
        due("a 41st", x.timer(41, 5), ROOM);
        due("40 wait", x.told(7), 40);
        due("none at 59", x.tick(59), 0);
        due("one at 60", x.tick(60), 1);
        due("it was the 40th", x.log(0, 0), 40);
        due("room for one", x.timer(41, 61), 40);
        due("not for two", x.timer(41, 61), ROOM);
        due("all others", x.tick(1000000), 40);
        due("none waits", x.told(7), 0);
    }

    @Sentence(at = "Terms 5", says = "As TIME goes on (0 at first) those come that are due")
    private static void timersComeAtTheirTime() {
        HotKeys x = new HotKeys();
        due("at first", x.told(8), 0);
        x.timer(1, 5);
        due("before it", x.tick(4), 0);
        due("it waits", x.told(7), 1);
        due("at it", x.tick(5), 1);
        due("none waits", x.told(7), 0);
        x.timer(2, 6);
        x.timer(3, 8);
        due("behind one, ahead of the other", x.tick(7), 1);
        due("key 2", x.log(0, 0), 2);
        due("one waits", x.told(7), 1);
    }

    @Sentence(at = "Terms 5", says = "by their times, of one time as they were set")
    private static void timersComeInOrder() {
        HotKeys x = new HotKeys();
        int[] times = {5, 3, 5, 4, 3, 5, 1, 4};
        for (int i = 0; i < times.length; i++) {
            x.timer(10 + i, times[i]);
        }
        due("all", x.tick(5), 8);
        int[] keys = {16, 11, 14, 13, 17, 10, 12, 15};
        for (int i = 0; i < 8; i++) {
            due("ring " + i, x.log(7 - i, 0), keys[i]);
            due("its time", x.log(7 - i, 1), times[keys[i] - 10]);
        }
    }

    @Sentence(at = "Terms 5", says = "by their times, of one time as they were set")
    private static void ofOneTimeAsSetAcrossTicks() {
        HotKeys x = new HotKeys();
        x.timer(9, 7);
        x.timer(5, 2);
        x.tick(3);
        x.timer(1, 7);
        x.timer(3, 6);
        x.tick(7);
        due("latest", x.log(0, 0), 1);
        due("ahead of it", x.log(1, 0), 9);
        due("the first", x.log(2, 0), 3);
    }

    @Sentence(at = "Terms 5",
            says = "what all PARTS of the KEY come to, JOINED, is put behind THE LOG")
    private static void joinedStatesAreLogged() {
        HotKeys x = calm(4, COUNT, SUM, LEAST, GREATEST, SET, LAST);
        x.split(1, 4);
        for (int part = 3; part >= 0; part--) {
            rowOfPart(x, 1, part, part - 1);
        }
        x.timer(1, 5);
        x.tick(9);
        long[] want = {1, 5, 4, 2, -1, 2, 1 << 15 | 1 | 1 << 1 | 1 << 2, -1};
        for (int what = 0; what < 8; what++) {
            due("what " + what, x.log(0, what), want[what]);
        }
        HotKeys y = withFolds(CHAIN, FALLS);
        y.row(1, 5);
        y.row(1, 4);
        y.timer(1, 5);
        y.tick(5);
        due("a chain", y.log(0, 2), 31 * (31 * 7 + 5) + 4);
        due("falls", y.log(0, 3), 1);
    }

    @Sentence(at = "Terms 5", says = "(of which the latest 64 are kept)")
    private static void latest64AreKept() {
        HotKeys x = new HotKeys();
        for (int i = 1; i <= 63; i++) {
            x.timer(i, i);
            x.tick(i);
        }
        due("63 kept", x.told(9), 63);
        due("no 64th", x.log(63, 0), NOTHING);
        x.timer(64, 64);
        x.tick(64);
        due("64 kept", x.told(9), 64);
        due("the first one", x.log(63, 0), 1);
        x.timer(65, 65);
        x.tick(65);
        due("still 64 kept", x.told(9), 64);
        due("the latest", x.log(0, 0), 65);
        due("the second one", x.log(63, 0), 2);
        due("no 65th", x.log(64, 0), NOTHING);
    }

    @Sentence(at = "Terms 5", says = "(of which the latest 64 are kept)")
    private static void latest64AreKeptOfManyAtOnce() {
        HotKeys x = new HotKeys();
        for (int time = 1; time <= 2; time++) {
            for (int i = 0; i < 40; i++) {
                x.timer(50 * (time - 1) + i, time);
            }
            due("forty at once", x.tick(time), 40);
        }
        due("64 kept", x.told(9), 64);
        for (int i = 0; i < 64; i++) {
            due("log " + i, x.log(i, 0), i < 40 ? 89 - i : 79 - i);
        }
        due("no 65th", x.log(64, 0), NOTHING);
    }

    @Sentence(at = "Terms 5", says = "its STATES are EMPTY then, in all PARTS")
    private static void statesAreEmptyInAllParts() {
        long[] empty = {0, 0, NOTHING, NOTHING, 0, NOTHING};
        HotKeys x = calm(4, COUNT, SUM, LEAST, GREATEST, SET, LAST);
        x.split(1, 4);
        rows(x, 1, 16);
        rows(x, 2, 2);
        x.timer(1, 5);
        x.tick(5);
        due("still split", x.parts(1), 4);
        for (int fold = 0; fold < 6; fold++) {
            due("joined " + fold, x.state(fold, 1), empty[fold]);
            for (int part = 0; part < 4; part++) {
                due("part " + part + ", fold " + fold, x.part(fold, 1, part), empty[fold]);
            }
        }
        due("another key's", x.state(0, 2), 2);
        rowOfPart(x, 1, 2, -9);
        rowOfPart(x, 1, 1, -8);
        long[] want = {2, -17, -9, -8, 1 << 7 | 1 << 8, -8};
        for (int fold = 0; fold < 6; fold++) {
            due("from there on, fold " + fold, x.state(fold, 1), want[fold]);
        }
    }

    @Sentence(at = "Terms 5", says = "its STATES are EMPTY then, in all PARTS")
    private static void statesAreEmptyInEightPartsAndOfOneKeyAlone() {
        HotKeys x = calm(8, COUNT);
        x.split(96, 8);
        x.split(99, 8);
        rows(x, 95, 3);
        rows(x, 97, 3);
        for (int part = 0; part < 8; part++) {
            rowOfPart(x, 96, part, 0);
            rowOfPart(x, 99, part, 0);
        }
        long of98 = x.state(0, 98);
        x.timer(96, 1);
        x.timer(99, 2);
        x.tick(1);
        due("96", x.state(0, 96), 0);
        due("95", x.state(0, 95), 3);
        due("97", x.state(0, 97), 3);
        due("99", x.state(0, 99), 8);
        x.tick(2);
        due("99", x.state(0, 99), 0);
        due("98", x.state(0, 98), of98);
        for (int part = 0; part < 8; part++) {
            due("part " + part + " of 96", x.part(0, 96, part), 0);
            due("part " + part + " of 99", x.part(0, 99, part), 0);
        }
    }

    @Sentence(at = "Terms 5", says = "its STATES are EMPTY then, in all PARTS")
    private static void chainAndFallsBeginAnew() {
        HotKeys x = withFolds(CHAIN, FALLS);
        x.row(1, 5);
        x.row(1, 4);
        x.timer(1, 5);
        x.tick(5);
        due("chain", x.state(0, 1), 7);
        due("falls", x.state(1, 1), 0);
        x.row(1, 3);
        due("chain", x.state(0, 1), 31 * 7 + 3);
        due("no value was folded before it", x.state(1, 1), 0);
        x.row(1, 2);
        due("falls", x.state(1, 1), 1);
    }

    @Sentence(at = "Terms 5", says = "its STATES are EMPTY then, in all PARTS")
    private static void secondTimerOfOneTickFindsThemEmpty() {
        HotKeys x = withFolds(COUNT, LAST);
        x.row(1, 5);
        x.timer(1, 1);
        x.timer(1, 1);
        x.timer(1, 2);
        due("three", x.tick(2), 3);
        due("the first, count", x.log(2, 2), 1);
        due("the first, last", x.log(2, 3), 5);
        for (int i = 0; i < 2; i++) {
            due("then empty, count", x.log(i, 2), 0);
            due("then empty, last", x.log(i, 3), NOTHING);
        }
    }

    @Sentence(at = "Terms 5", says = "the timer is gone.")
    private static void theTimerIsGone() {
        HotKeys x = new HotKeys();
        x.timer(1, 1);
        x.timer(2, 3);
        due("one", x.tick(1), 1);
        due("one waits", x.told(7), 1);
        due("none again", x.tick(1), 0);
        due("one more", x.tick(3), 1);
        due("none waits", x.told(7), 0);
        due("none ever", x.tick(1000000), 0);
        due("two rows of the log", x.told(9), 2);
    }

    // 6: marks.

    @Sentence(at = "Terms 6", says = "MARKS, 4 at most")
    private static void marks4AtMost() {
        HotKeys x = withFolds(COUNT);
        for (int i = 0; i < 4; i++) {
            x.row(1, 0);
            due("mark " + i, x.mark(), i);
        }
        x.row(1, 0);
        due("a fifth", x.mark(), ROOM);
        due("four", x.told(11), 4);
        for (int i = 0; i < 4; i++) {
            due("restored " + i, x.restore(i), i + 1);
            due("its count", x.state(0, 1), i + 1);
        }
        due("a fifth, still", x.mark(), ROOM);
    }

    @Sentence(at = "Terms 6", says = "hold for each KEY what its STATES come to, JOINED")
    private static void marksHoldJoinedStates() {
        HotKeys x = calm(4, COUNT, SUM, LEAST, GREATEST, SET, LAST);
        x.split(99, 4);
        for (int part = 3; part >= 0; part--) {
            rowOfPart(x, 99, part, part - 1);
        }
        x.row(0, 7);
        x.mark();
        due("still split", x.parts(99), 4);
        due("its parts stay", x.part(0, 99, 3), 1);
        rows(x, 99, 9);
        rows(x, 0, 9);
        rows(x, 50, 9);
        x.restore(0);
        long[] of99 = {4, 2, -1, 2, 1 << 15 | 1 | 1 << 1 | 1 << 2, -1};
        long[] of0 = {1, 7, 7, 7, 1 << 7, 7};
        long[] of50 = {0, 0, NOTHING, NOTHING, 0, NOTHING};
        for (int fold = 0; fold < 6; fold++) {
            due("key 99, fold " + fold, x.state(fold, 99), of99[fold]);
            due("key 99, part 0, fold " + fold, x.part(fold, 99, 0), of99[fold]);
            due("key 0, fold " + fold, x.state(fold, 0), of0[fold]);
            due("key 50, fold " + fold, x.state(fold, 50), of50[fold]);
        }
    }

    @Sentence(at = "Terms 6", says = "hold for each KEY what its STATES come to, JOINED")
    private static void marksHoldChainAndFalls() {
        HotKeys x = withFolds(CHAIN, FALLS);
        x.row(1, 5);
        x.row(1, 4);
        x.mark();
        x.row(1, -9);
        x.row(1, -10);
        x.restore(0);
        due("chain", x.state(0, 1), 31 * (31 * 7 + 5) + 4);
        due("falls", x.state(1, 1), 1);
        x.row(1, 3);
        due("less than the value folded before it", x.state(1, 1), 2);
        x.restore(0);
        x.row(1, 4);
        due("as great as that", x.state(1, 1), 1);
    }

    @Sentence(at = "Terms 6", says = "hold for each KEY what its STATES come to, JOINED")
    private static void heldLastGivesWayToLaterRows() {
        HotKeys x = calm(4, LAST);
        x.split(1, 4);
        rowOfPart(x, 1, 3, 5);
        x.mark();
        rows(x, 1, 30);
        x.restore(0);
        due("held", x.state(0, 1), 5);
        x.split(1, 4);
        rowOfPart(x, 1, 2, 6);
        due("a later row", x.state(0, 1), 6);
    }

    @Sentence(at = "Terms 6", says = "the SMALL rows, timers that wait, TIME")
    private static void marksHoldSmallRows() {
        HotKeys x = new HotKeys();
        x.small(1, 10);
        x.mark();
        x.small(1, 100);
        x.small(2, 100);
        x.restore(0);
        due("one", x.told(13), 1);
        due("at home", x.copies(1), 1);
        due("not of key 2", x.copies(2), 0);
        x.row(1, 1);
        due("its weight", x.out(), 10);
        HotKeys y = new HotKeys();
        y.mark();
        for (int i = 0; i < 60; i++) {
            y.small(1, 10);
        }
        y.mark();
        y.restore(0);
        due("none", y.told(13), 0);
        due("room again", y.small(2, 5), 1);
        y.restore(1);
        due("sixty", y.told(13), 60);
        due("no room again", y.small(2, 5), ROOM);
        y.row(1, 1);
        due("all as held", y.out(), 600);
        due("none of key 2", y.copies(2), 0);
    }

    @Sentence(at = "Terms 6", says = "timers that wait, TIME")
    private static void marksHoldTimersThatWait() {
        HotKeys x = new HotKeys();
        x.timer(1, 5);
        x.timer(2, 4);
        x.timer(3, 5);
        x.tick(4);
        x.mark();
        x.timer(4, 5);
        x.tick(5);
        due("none waits", x.told(7), 0);
        x.restore(0);
        due("two wait", x.told(7), 2);
        due("two ring", x.tick(9), 2);
        due("as they were set", x.log(0, 0), 3);
        due("as they were set", x.log(1, 0), 1);
        due("no more", x.log(2, 0), NOTHING);
        HotKeys y = new HotKeys();
        y.mark();
        for (int i = 0; i < 40; i++) {
            y.timer(i, 7);
        }
        y.mark();
        y.restore(0);
        due("none waits", y.told(7), 0);
        due("room again", y.timer(50, 6), 1);
        y.restore(1);
        due("no room again", y.timer(50, 6), ROOM);
        due("forty", y.tick(7), 40);
        due("the last one", y.log(0, 0), 39);
        due("the first one", y.log(39, 0), 0);
    }

    @Sentence(at = "Terms 6", says = "timers that wait, TIME")
    private static void marksHoldTheTimesOfTimers() {
        HotKeys x = new HotKeys();
        x.mark();
        x.timer(1, 50);
        x.timer(2, 60);
        x.mark();
        x.restore(0);
        x.timer(3, 20);
        x.timer(4, 30);
        x.restore(1);
        due("none at 49", x.tick(49), 0);
        due("one at 50", x.tick(50), 1);
        due("its key", x.log(0, 0), 1);
        due("its time", x.log(0, 1), 50);
        due("one at 60", x.tick(60), 1);
        due("its time", x.log(0, 1), 60);
    }

    @Sentence(at = "Terms 6", says = "timers that wait, TIME, how many rows came")
    private static void marksHoldTime() {
        HotKeys x = new HotKeys();
        x.mark();
        x.tick(7);
        x.mark();
        x.tick(1000000);
        x.restore(1);
        due("TIME", x.told(8), 7);
        due("at it", x.timer(1, 7), OUTSIDE);
        due("behind it", x.timer(1, 8), 1);
        due("below it", x.tick(6), OUTSIDE);
        x.restore(0);
        due("TIME", x.told(8), 0);
        due("stays", x.tick(0), 0);
    }

    @Sentence(at = "Terms 6", says = "how many rows came, OUT, MATCHES.")
    private static void marksHoldHowManyRowsCame() {
        HotKeys x = calm(8);
        rows(x, 1, 3);
        x.mark();
        rows(x, 1, 4);
        x.restore(0);
        due("rows", x.told(0), 3);
        x.split(8, 8);
        due("the next is row 3, of part 6", x.row(8, 0), 6);
        HotKeys y = new HotKeys();
        rows(y, 1, 440);
        y.mark();
        rows(y, 1, 10);
        y.mark();
        due("full", y.row(1, 0), ROOM);
        y.restore(0);
        due("room again", y.row(1, 0), 1);
        y.restore(1);
        due("full again", y.row(1, 0), ROOM);
    }

    @Sentence(at = "Terms 6", says = "OUT, MATCHES.")
    private static void marksHoldOutAndMatches() {
        HotKeys x = new HotKeys();
        x.small(1, 10);
        x.row(1, 3);
        x.mark();
        x.row(1, 5);
        due("out", x.out(), 80);
        due("matches", x.told(5), 2);
        x.restore(0);
        due("out as held", x.out(), 30);
        due("matches as held", x.told(5), 1);
    }

    @Sentence(at = "Terms 6", says = "RESTORED all these are as held")
    private static void restoredAgainAllIsAsHeld() {
        HotKeys x = withFolds(SUM, LAST);
        x.small(1, 10);
        x.timer(1, 5);
        x.tick(2);
        x.row(1, 3);
        x.mark();
        for (int i = 0; i < 3; i++) {
            x.small(1, 1);
            x.small(2, 1);
            x.row(1, 7);
            x.timer(2, 4);
            x.tick(9);
            due("restored", x.restore(0), 1);
            due("sum", x.state(0, 1), 3);
            due("last", x.state(1, 1), 3);
            due("small rows", x.told(13), 1);
            due("small rows of key 2", x.copies(2), 0);
            due("timers", x.told(7), 1);
            due("TIME", x.told(8), 2);
            due("rows", x.told(0), 1);
            due("out", x.out(), 30);
            due("matches", x.told(5), 1);
        }
    }

    @Sentence(at = "Terms 6", says = "RESTORED all these are as held; each KEY is one, at HOME")
    private static void restoredKeysAreOneAtHome() {
        HotKeys x = calm(4, COUNT);
        x.small(7, 1);
        x.split(7, 4);
        x.split(0, 2);
        rows(x, 7, 9);
        x.mark();
        x.split(99, 4);
        x.restore(0);
        for (int key = 0; key < 100; key++) {
            due("key " + key, x.parts(key), 1);
        }
        due("none is split", x.told(12), 0);
        due("none is split", x.splitKey(0), NONE);
        due("home", x.place(7, 0), 3);
        due("no part 1", x.place(7, 1), NONE);
        due("all in part 0", x.part(0, 7, 0), 9);
        due("small rows at home", x.copies(3), 1);
        due("not elsewhere", x.copies(0), 0);
        due("a row at home", x.row(7, 0), 3);
        due("it can be split again", x.split(7, 2), 1);
    }

    @Sentence(at = "Terms 6", says = "counters and THE LOG are empty")
    private static void restoredCountersAndLogAreEmpty() {
        HotKeys x = withFolds(COUNT);
        rows(x, 1, 9);
        x.timer(1, 1);
        x.tick(1);
        x.mark();
        due("a row of the log", x.told(9), 1);
        due("hot", x.hot(1), 2);
        x.restore(0);
        due("none kept", x.told(9), 0);
        due("no log", x.log(0, 0), NOTHING);
        due("not hot", x.hot(1), 0);
        for (int i = 0; i < 4; i++) {
            due("counter " + i, x.counter(i, 0), NONE);
        }
        x.row(2, 0);
        dueCounter(x, 0, 2, 1, 0);
        due("the second", x.counter(1, 0), NONE);
        x.timer(5, 2);
        x.tick(2);
        due("one kept", x.told(9), 1);
        due("that one", x.log(0, 0), 5);
    }

    @Sentence(at = "Terms 6", says = "a ROUND begins")
    private static void restoredARoundBegins() {
        HotKeys x = shaped(4, 8, 8, 0, 2);
        rows(x, 1, 5);
        x.mark();
        rows(x, 1, 2);
        x.restore(0);
        due("no row of it", x.told(1), 0);
        rows(x, 1, 7);
        due("seven", x.told(1), 7);
        due("none ended", x.told(2), 0);
        rows(x, 1, 1);
        due("one ended", x.told(2), 1);
    }

    @Sentence(at = "Terms 6", says = "no row was done at a PLACE.")
    private static void restoredLoadsAreNought() {
        HotKeys x = new HotKeys();
        for (int key = 0; key < 8; key++) {
            x.row(key, 0);
        }
        x.mark();
        due("two at place 3", x.load(3), 2);
        x.restore(0);
        for (int place = 0; place < 4; place++) {
            due("place " + place, x.load(place), 0);
        }
        x.row(3, 0);
        due("one at place 3", x.load(3), 1);
    }

    @Sentence(at = "Terms 6", says = "(SHAPE, FOLDS, MARKS, and what else is told stay.)")
    private static void restoredShapeStays() {
        HotKeys x = new HotKeys();
        x.mark();
        due("a shape behind a mark", x.shape(3, 8, 8, 0, 2), 1);
        x.restore(0);
        due("place 2", x.load(2), 0);
        due("place 3", x.load(3), UNKNOWN);
        due("counter 2", x.counter(2, 0), OUTSIDE);
        due("home", x.place(5, 0), 2);
        rows(x, 1, 8);
        due("a round of eight", x.told(2), 1);
    }

    @Sentence(at = "Terms 6", says = "(SHAPE, FOLDS, MARKS, and what else is told stay.)")
    private static void restoredFoldsAndMarksStay() {
        HotKeys x = withFolds(COUNT, SUM);
        x.mark();
        x.row(1, 5);
        x.mark();
        x.restore(0);
        due("folds", x.told(10), 2);
        due("marks", x.told(11), 2);
        due("the next one's number", x.mark(), 2);
        due("a later mark", x.restore(1), 1);
        due("its sum", x.state(1, 1), 5);
        due("the earlier one again", x.restore(0), 0);
        due("its sum", x.state(1, 1), 0);
    }

    @Sentence(at = "Terms 6", says = "(SHAPE, FOLDS, MARKS, and what else is told stay.)")
    private static void restoredWhatElseIsToldStays() {
        HotKeys x = shaped(4, 8, 4, 0, 2);
        x.mark();
        rows(x, 1, 16);
        x.back(1);
        int moved = x.told(6);
        due("parts moved", moved, 2);
        rows(x, 1, 12);
        due("rows of parts that are split when it is restored", x.part(0, 1, 2) > 0 ? 1 : 0, 1);
        x.restore(0);
        due("rounds", x.told(2), 3);
        due("flips", x.told(3), 2);
        due("a restore moves none", x.told(6), moved);
        HotKeys y = withFolds(CHAIN);
        y.mark();
        rows(y, 1, 32);
        y.restore(0);
        due("passed over", y.told(4), 1);
    }
}
