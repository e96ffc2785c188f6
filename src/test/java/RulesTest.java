import java.io.IOException;
import java.lang.reflect.Array;
import java.lang.reflect.Constructor;
import java.lang.reflect.Field;
import java.lang.reflect.Method;
import java.lang.reflect.Modifier;
import java.nio.file.Files;
import java.nio.file.Path;
import java.util.Arrays;
import java.util.IdentityHashMap;
import java.util.Map;
import java.util.Set;
import java.util.TreeSet;
import java.util.regex.Pattern;

/** The public face, the rules of the language that can be read, and the room that is taken. */
public final class RulesTest {
    private static final String[] FACE = {
        "int shape(int,int,int,int,int)", "int fold(int,boolean)", "int row(int,int)",
        "long state(int,int)", "long part(int,int,int)", "int parts(int)", "int place(int,int)",
        "int split(int,int)", "int back(int)", "int tree(int,int)", "int counter(int,int)",
        "int hot(int)", "int splitKey(int)", "int load(int)", "int small(int,int)",
        "int copies(int)", "long out()", "int timer(int,int)", "int tick(int)",
        "long log(int,int)", "int mark()", "int restore(int)", "int told(int)", "int clear()",
    };
    private static final Set<String> CONSTANTS =
            Set.of("NONE", "UNKNOWN", "OUTSIDE", "STATE", "ROOM");
    private static final String[] BANNED = {
        "\\bthrow\\b", "\\bthrows\\b", "\\btry\\b", "\\bcatch\\b", "\\bsynchronized\\b",
        "\\bassert\\b", "->", "::", "\\bpackage\\b", "Exact\\b", "\\bprotected\\b",
        "\\bMath\\.random\\b", "\\bThread\\b", "\\bObject\\b",
    };
    // A run is of 512 calls in a room of 600,000 objects with 7.3 million elements.
    private static final int CALLS = 512;
    private static final int MOST_OBJECTS = 600000 / CALLS;
    private static final int MOST_ELEMENTS = 7300000 / CALLS;

    private static final Check check = new Check();

    public static void main(String[] args) throws Exception {
        face();
        classesInside();
        source();
        room();
        check.end();
    }

    private static String written(Method m) {
        StringBuilder text = new StringBuilder(m.getReturnType() + " " + m.getName() + "(");
        String comma = "";
        for (Class<?> type : m.getParameterTypes()) {
            text.append(comma).append(type);
            comma = ",";
        }
        return text.append(')').toString();
    }

    private static void face() {
        Set<String> found = new TreeSet<>();
        Set<String> names = new TreeSet<>();
        for (Method m : HotKeys.class.getDeclaredMethods()) {
            if (Modifier.isPublic(m.getModifiers())) {
                found.add(written(m));
                names.add(m.getName());
            }
        }
        check.due("the face is " + found, found.equals(Set.of(FACE)) ? 1 : 0, 1);
        check.due("final", Modifier.isFinal(HotKeys.class.getModifiers()) ? 1 : 0, 1);
        for (Method m : HotKeys.class.getDeclaredMethods()) {
            boolean open = Modifier.isPublic(m.getModifiers());
            boolean closed = Modifier.isPrivate(m.getModifiers());
            check.due("a visible " + m, open || closed ? 1 : 0, 1);
            check.due("a private name " + m, closed && names.contains(m.getName()) ? 1 : 0, 0);
        }
        for (Field f : HotKeys.class.getDeclaredFields()) {
            int kind = CONSTANTS.contains(f.getName()) ? Modifier.PUBLIC : Modifier.PRIVATE;
            check.due("visible " + f, (f.getModifiers() & kind) != 0 ? 1 : 0, 1);
            check.due("static state " + f, isFreeStatic(f) ? 1 : 0, 0);
        }
        Constructor<?>[] made = HotKeys.class.getDeclaredConstructors();
        check.due("constructors", made.length, 1);
        check.due("its parameters", made[0].getParameterCount(), 0);
    }

    private static boolean isFreeStatic(Field f) {
        return Modifier.isStatic(f.getModifiers()) && !Modifier.isFinal(f.getModifiers());
    }

    private static void classesInside() {
        Set<String> names = new TreeSet<>();
        for (Method m : HotKeys.class.getMethods()) {
            names.add(m.getName());
        }
        Class<?>[] inside = HotKeys.class.getDeclaredClasses();
        check.due("classes", inside.length + 1 <= 12 ? 1 : 0, 1);
        for (Class<?> c : inside) {
            check.due("static " + c, Modifier.isStatic(c.getModifiers()) ? 1 : 0, 1);
            check.due("public " + c, Modifier.isPublic(c.getModifiers()) ? 1 : 0, 0);
            for (Method m : c.getDeclaredMethods()) {
                check.due("a name of the face " + m, names.contains(m.getName()) ? 1 : 0, 0);
                check.due("parameters " + m, m.getParameterCount() <= 7 ? 1 : 0, 1);
            }
        }
    }

    private static void source() throws IOException {
        String text = Files.readString(Path.of("src/main/java/HotKeys.java"));
        String code = text.replaceAll("(?s)/\\*.*?\\*/", "").replaceAll("//[^\n]*", "");
        for (String word : BANNED) {
            check.due("found " + word, Pattern.compile(word).matcher(code).find() ? 1 : 0, 0);
        }
        String[] imports = code.lines().filter(x -> x.startsWith("import")).toArray(String[]::new);
        check.due("imports " + Arrays.toString(imports), imports.length, 1);
        check.due("characters", text.chars().allMatch(c -> c < 128) ? 1 : 0, 1);
    }

    private static void room() throws IllegalAccessException {
        HotKeys x = new HotKeys();
        int[] made = taken(x);
        System.out.println("a new object: " + made[0] + " objects, " + made[1] + " elements");
        check.due("objects", made[0] <= MOST_OBJECTS ? 1 : 0, 1);
        check.due("elements", made[1] <= MOST_ELEMENTS ? 1 : 0, 1);
        x.mark();
        int[] marked = taken(x);
        System.out.println("a mark more: " + (marked[0] - made[0]) + " objects, "
                + (marked[1] - made[1]) + " elements");
        check.due("elements of a mark", marked[1] - made[1] <= MOST_ELEMENTS ? 1 : 0, 1);
        for (int i = 0; i < 20; i++) {
            x.clear();
            x.mark();
        }
        check.due("marks used again", taken(x)[1], marked[1]);
    }

    /** Objects and arrays that can be reached, and all their fields and elements. */
    private static int[] taken(HotKeys x) throws IllegalAccessException {
        Map<Object, Object> seen = new IdentityHashMap<>();
        int elements = reach(x, seen);
        return new int[] {seen.size(), elements};
    }

    private static int reach(Object o, Map<Object, Object> seen) throws IllegalAccessException {
        if (o == null || seen.put(o, o) != null) {
            return 0;
        }
        int elements = 0;
        if (o.getClass().isArray()) {
            int length = Array.getLength(o);
            for (int i = 0; i < length && o instanceof Object[]; i++) {
                elements += reach(Array.get(o, i), seen);
            }
            return elements + length;
        }
        for (Field f : o.getClass().getDeclaredFields()) {
            if (!Modifier.isStatic(f.getModifiers())) {
                elements++;
                f.setAccessible(true);
                elements += f.getType().isPrimitive() ? 0 : reach(f.get(o), seen);
            }
        }
        return elements;
    }
}
