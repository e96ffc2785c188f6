import java.io.IOException;
import java.lang.reflect.InvocationTargetException;
import java.lang.reflect.Method;
import java.util.ArrayList;
import java.util.Arrays;
import java.util.Comparator;
import java.util.List;
import java.util.Set;
import java.util.TreeSet;
import java.util.function.Supplier;
import java.util.function.ToLongFunction;

/**
 * What the tests of single sentences share. Each test is a method that bears the sentence; no
 * object is asked more than the 512 calls for which the document speaks.
 */
abstract class SentenceTests {
    static final long NOTHING = -4000000000000L;
    static final int NONE = HotKeys.NONE;
    static final int UNKNOWN = HotKeys.UNKNOWN;
    static final int OUTSIDE = HotKeys.OUTSIDE;
    static final int STATE = HotKeys.STATE;
    static final int ROOM = HotKeys.ROOM;
    static final int COUNT = 0, SUM = 1, LEAST = 2, GREATEST = 3, SET = 4, LAST = 5, CHAIN = 6,
            FALLS = 7;
    static final int[] NO_KEYS = {-1, 100, Integer.MIN_VALUE, Integer.MAX_VALUE};

    private static final Check check = new Check();
    private static String about;

    static void due(String call, long got, long want) {
        check.due(about + call, got, want);
    }

    /** Runs the tests of a class, and asks that none of the headings is left without one. */
    static void runAll(Class<?> tests, String headings)
            throws IOException, IllegalAccessException {
        Document document = new Document();
        Method[] methods = tests.getDeclaredMethods();
        Arrays.sort(methods, Comparator.comparing(Method::getName));
        Set<String> left = new TreeSet<>(document.headings());
        left.removeIf(heading -> !heading.startsWith(headings));
        int ran = 0;
        for (Method method : methods) {
            Sentence sentence = method.getAnnotation(Sentence.class);
            if (sentence != null) {
                about = method.getName() + ", " + sentence.at() + " \"" + sentence.says() + "\": ";
                due("the document says so",
                        document.says(sentence.at(), sentence.says()) ? 1 : 0, 1);
                run(method);
                ran++;
                left.remove(sentence.at());
            }
        }
        about = "";
        due("headings without a test, " + left, left.size(), 0);
        System.out.println(ran + " sentences tested");
        check.end();
    }

    private static void run(Method method) throws IllegalAccessException {
        method.setAccessible(true);
        try {
            method.invoke(null);
        } catch (InvocationTargetException thrown) {
            due("threw " + thrown.getCause(), 1, 0);
        }
    }

    static HotKeys withFolds(int... kinds) {
        HotKeys x = new HotKeys();
        for (int kind : kinds) {
            x.fold(kind, true);
        }
        return x;
    }

    /** With rounds so long, and a threshold so high, that no round meddles with the keys. */
    static HotKeys calm(int places, int... kinds) {
        HotKeys x = withFolds(kinds);
        x.shape(places, 200, 200, 199, 12);
        return x;
    }

    static void rows(HotKeys x, int key, int number) {
        for (int i = 0; i < number; i++) {
            x.row(key, 1);
        }
    }

    static int partOfRow(int n, int q) {
        long product = n * 0x9E3779B1L % (1L << 32);
        return (int) (product / (1 << 16) % q);
    }

    /** A row of a key that is split; rows of key 98 come ahead of it till its part is due. */
    static void rowOfPart(HotKeys x, int key, int part, int v) {
        int q = x.parts(key);
        int first = x.told(0);
        // Of 24 rows one at least is of each part, so a key without that part ends the search.
        for (int n = first; n < first + 24 && q > part; n++) {
            if (partOfRow(n, q) == part) {
                x.row(key, v);
                return;
            }
            x.row(98, 0);
        }
        due("key " + key + " has a part " + part, q, part + 1);
    }

    /** A past in which there is something of all that can be; less than 60 calls. */
    static HotKeys busy() {
        HotKeys x = withFolds(COUNT, SUM, LEAST, LAST);
        x.shape(4, 20, 5, 2, 3);
        x.small(5, 3);
        x.small(9, -2);
        x.timer(5, 4);
        x.tick(4);
        x.timer(9, 60);
        x.timer(5, 50);
        x.split(9, 3);
        for (int i = 0; i < 26; i++) {
            x.row(i % 3 == 0 ? 9 : 5, i);
        }
        x.mark();
        x.row(5, -7);
        x.row(9, 12);
        x.row(7, 1);
        return x;
    }

    /** A call that is refused changes nothing: now, nor in what can be seen of it later. */
    static void refused(String call, Supplier<HotKeys> past, ToLongFunction<HotKeys> asked,
            long answer) {
        HotKeys x = past.get();
        HotKeys y = past.get();
        due(call, asked.applyAsLong(x), answer);
        alike("after " + call, x, y);
        goOn(x);
        goOn(y);
        alike("later than " + call, x, y);
        due("restored after " + call, x.restore(0), y.restore(0));
        alike("restored after " + call, x, y);
    }

    private static void goOn(HotKeys x) {
        rows(x, 5, 3);
        rows(x, 9, 2);
        x.back(9);
        x.tick(1000000);
    }

    /** 102 calls of each. */
    private static void alike(String when, HotKeys x, HotKeys y) {
        List<Long> of = seen(x);
        List<Long> other = seen(y);
        for (int i = 0; i < of.size(); i++) {
            due(when + ", answer " + i + " of all that is seen", of.get(i), other.get(i));
        }
    }

    private static List<Long> seen(HotKeys x) {
        List<Long> all = new ArrayList<>();
        all.add(x.out());
        for (int i = 0; i < 14; i++) {
            all.add((long) x.told(i));
        }
        for (int i = 0; i < 5; i++) {
            all.add((long) x.load(i));
            all.add((long) x.copies(i));
            all.add((long) x.splitKey(i));
        }
        for (int i = 0; i < 12; i++) {
            all.add((long) x.counter(i / 3, i % 3));
        }
        for (int i = 0; i < 16; i++) {
            all.add(x.log(i / 8, i % 8));
        }
        for (int key = 5; key <= 9; key += 4) {
            seenOfKey(x, key, all);
        }
        return all;
    }

    private static void seenOfKey(HotKeys x, int key, List<Long> all) {
        all.add((long) x.parts(key));
        all.add((long) x.hot(key));
        for (int i = 0; i < 5; i++) {
            all.add((long) x.place(key, i));
            all.add(x.state(i, key));
            for (int fold = 0; fold < 4; fold += 3) {
                all.add(x.part(fold, key, i));
            }
        }
    }
}
