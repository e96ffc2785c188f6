import java.io.IOException;
import java.lang.reflect.Method;
import java.lang.reflect.Modifier;
import java.nio.file.Files;
import java.nio.file.Path;
import java.util.ArrayList;
import java.util.Arrays;
import java.util.List;
import java.util.Map;
import java.util.Set;
import java.util.TreeMap;
import java.util.TreeSet;
import java.util.regex.Matcher;
import java.util.regex.Pattern;
import java.util.stream.Stream;

/** What README.md says must hold of the class, of the document and of the tests. */
public final class ReadmeTest {
    private static final Map<String, Long> NAMES = Map.of(
            "NONE", (long) HotKeys.NONE, "UNKNOWN", (long) HotKeys.UNKNOWN,
            "OUTSIDE", (long) HotKeys.OUTSIDE, "STATE", (long) HotKeys.STATE,
            "ROOM", (long) HotKeys.ROOM, "NOTHING", -4000000000000L);
    private static final Pattern CALL =
            Pattern.compile("x\\.(\\w+)\\((.*)\\);\\s+// (-?\\d+|[A-Z]+)(:.*)?");
    private static final Pattern ROW_OF_CALLS =
            Pattern.compile("\\| `(\\w+)\\((.*?)\\)` \\| (.*) \\|(.*) ?\\|");
    private static final Pattern REFUSAL =
            Pattern.compile("\\b(UNKNOWN|OUTSIDE|STATE|ROOM|NONE)\\b");
    private static final Pattern ROW_OF_KINDS =
            Pattern.compile("\\| (\\d) \\| .* \\| (\\w+) \\| (.*) \\|");
    private static final Pattern PROMISE = Pattern.compile("`\\w+ (\\w+)\\(.*?\\)`: (.*)");

    private static final Check check = new Check();

    public static void main(String[] args) throws Exception {
        List<String> readme = Files.readAllLines(Path.of("README.md"));
        examples(readme);
        calls(readme);
        told(String.join(" ", readme));
        kinds(readme);
        constants(readme);
        tests(readme);
        classes(readme);
        check.end();
    }

    private static void holds(String what, boolean does) {
        check.due(what, does ? 1 : 0, 1);
    }

    private static void examples(List<String> readme) throws ReflectiveOperationException {
        HotKeys x = null;
        boolean inside = false;
        int asked = 0;
        for (String line : readme) {
            if (line.startsWith("```")) {
                inside = line.equals("```java");
            } else if (inside && line.equals("HotKeys x = new HotKeys();")) {
                x = new HotKeys();
            } else if (inside) {
                example(x, line);
                asked++;
            }
        }
        holds("there are examples", asked > 0);
    }

    private static void example(HotKeys x, String line) throws ReflectiveOperationException {
        Matcher call = CALL.matcher(line);
        holds("a call with its answer: " + line, call.matches() && x != null);
        if (!call.matches() || x == null) {
            return;
        }
        Method method = methodOf(call.group(1));
        holds("a call of the class: " + line, method != null);
        if (method != null) {
            Object[] numbers = numbersOf(call.group(2), method.getParameterTypes());
            long got = ((Number) method.invoke(x, numbers)).longValue();
            String answer = call.group(3);
            check.due(line, got, NAMES.containsKey(answer) ? NAMES.get(answer)
                    : Long.parseLong(answer));
        }
    }

    private static Method methodOf(String name) {
        for (Method method : HotKeys.class.getDeclaredMethods()) {
            if (Modifier.isPublic(method.getModifiers()) && method.getName().equals(name)) {
                return method;
            }
        }
        return null;
    }

    private static Object[] numbersOf(String text, Class<?>[] types) {
        String[] words = text.isEmpty() ? new String[0] : text.split(", ");
        Object[] numbers = new Object[words.length];
        for (int i = 0; i < words.length; i++) {
            boolean isFlag = i < types.length && types[i] == boolean.class;
            numbers[i] = isFlag ? (Object) Boolean.valueOf(words[i])
                    : (Object) Integer.valueOf(words[i]);
        }
        return numbers;
    }

    /** The table names each call, with as many numbers, and its refusals as the document does. */
    private static void calls(List<String> readme) throws IOException {
        Map<String, Set<String>> due = refusalsOfTheDocument();
        Set<String> left = new TreeSet<>(due.keySet());
        for (String line : readme) {
            Matcher row = ROW_OF_CALLS.matcher(line);
            if (row.matches()) {
                String name = row.group(1);
                Method method = methodOf(name);
                holds("a call of the class, once: " + name, left.remove(name) && method != null);
                int numbers = row.group(2).isEmpty() ? 0 : row.group(2).split(", ").length;
                check.due("numbers of " + name, numbers,
                        method == null ? -1 : method.getParameterCount());
                Set<String> told = wordsOf(row.group(3) + " |" + row.group(4));
                holds("refusals of " + name + " are " + due.get(name) + ", told are " + told,
                        told.equals(due.get(name)));
                boolean tellsAState = Set.of("state", "part", "log").contains(name);
                holds("NOTHING of " + name, row.group(4).contains("NOTHING") == tellsAState);
            }
        }
        holds("calls that the table leaves out: " + left, left.isEmpty());
    }

    private static Map<String, Set<String>> refusalsOfTheDocument() throws IOException {
        Map<String, Set<String>> refusals = new TreeMap<>();
        boolean inside = false;
        for (String line : Files.readAllLines(Path.of("../shared/DOC.md"))) {
            inside = inside || line.startsWith("## Promise 2:");
            Matcher promise = PROMISE.matcher(line);
            if (inside && promise.matches()) {
                // "The STATE of" tells a state, and is no refusal.
                refusals.put(promise.group(1),
                        wordsOf(promise.group(2).replaceAll("STATE of", "")));
            }
        }
        check.due("promises of calls", refusals.size(), 24);
        return refusals;
    }

    private static Set<String> wordsOf(String text) {
        Set<String> words = new TreeSet<>();
        Matcher word = REFUSAL.matcher(text);
        while (word.find()) {
            words.add(word.group(1));
        }
        return words;
    }

    /** Each number of told(what) that the class knows, and no other. */
    private static void told(String readme) {
        Matcher list = Pattern.compile("`told\\(what\\)`: (.*?)\\.").matcher(readme);
        holds("what told() tells", list.find());
        String[] items = list.group(1).split(", ");
        HotKeys x = new HotKeys();
        for (int what = 0; what < items.length; what++) {
            holds("told(" + what + "): " + items[what], items[what].startsWith(what + " "));
            holds("the class tells it", x.told(what) != HotKeys.OUTSIDE);
        }
        check.due("told() behind the last", x.told(items.length), HotKeys.OUTSIDE);
    }

    /** The empty state of each kind, and whether it can be joined. */
    private static void kinds(List<String> readme) {
        int kind = 0;
        for (String line : readme) {
            Matcher row = ROW_OF_KINDS.matcher(line);
            if (row.matches()) {
                check.due("the kind of " + line, Integer.parseInt(row.group(1)), kind);
                String empty = row.group(2);
                HotKeys x = new HotKeys();
                check.due("a fold of " + line, x.fold(kind, true), 0);
                check.due(line, x.state(0, 0), empty.equals("NOTHING") ? NAMES.get(empty)
                        : Long.parseLong(empty));
                boolean stays = row.group(3).equals("can't be joined");
                check.due(line, x.split(0, 2), stays ? HotKeys.STATE : 1);
                kind++;
            }
        }
        check.due("a kind more", new HotKeys().fold(kind, true), HotKeys.OUTSIDE);
    }

    private static void constants(List<String> readme) {
        String text = String.join(" ", readme);
        for (String name : NAMES.keySet()) {
            String written = name.equals("NOTHING") ? "NOTHING is " + NAMES.get(name) + "."
                    : "`" + name + "` (" + NAMES.get(name) + ")";
            holds("README.md says " + written, text.contains(written));
        }
    }

    private static void tests(List<String> readme) throws IOException {
        Set<String> there = new TreeSet<>();
        try (Stream<Path> files = Files.list(Path.of("src/test/java"))) {
            files.map(file -> file.getFileName().toString())
                    .filter(name -> name.endsWith("Test.java"))
                    .forEach(name -> there.add(name.replace(".java", "")));
        }
        Set<String> named = namesOf(readme, "## Tests");
        named.removeIf(name -> !name.endsWith("Test"));
        holds("tests that are named " + named + ", that are " + there, named.equals(there));
        holds(".ci/run can be run", Files.isExecutable(Path.of(".ci/run")));
    }

    private static void classes(List<String> readme) {
        Set<String> there = new TreeSet<>();
        Arrays.stream(HotKeys.class.getDeclaredClasses()).forEach(c -> there.add(c.getSimpleName()));
        Set<String> named = namesOf(readme, "## How it is held");
        holds("classes that are named " + named + ", that are " + there, named.equals(there));
    }

    /** The names of classes at the beginning of the points below a heading. */
    private static Set<String> namesOf(List<String> readme, String heading) {
        int first = readme.indexOf(heading);
        List<String> points = new ArrayList<>();
        for (String line : readme.subList(first + 1, readme.size())) {
            if (line.startsWith("## ")) {
                break;
            }
            if (line.startsWith("- ")) {
                points.add(line.replaceFirst(":.*", ""));
            }
        }
        Set<String> names = new TreeSet<>();
        Matcher name = Pattern.compile("`([A-Z]\\w*)`").matcher(String.join(" ", points));
        while (name.find()) {
            names.add(name.group(1));
        }
        return names;
    }
}
