import java.lang.reflect.Array;
import java.lang.reflect.Constructor;
import java.lang.reflect.Field;
import java.lang.reflect.Method;
import java.lang.reflect.Modifier;
import java.nio.file.Files;
import java.nio.file.Path;
import java.util.Arrays;
import java.util.IdentityHashMap;
import java.util.Set;
import java.util.TreeSet;
import java.util.regex.Matcher;
import java.util.regex.Pattern;

/** The public face, and the rules of LANGUAGE.md that can be read off the file or the class. */
public final class LanguageTest {
    private static final Due due = new Due();
    private static final Set<String> LIBRARY = Set.of("Math.min", "Math.max", "Integer.bitCount", "System.arraycopy");
    private static final String[] FACE = {"feed 1", "table 0", "fault 0", "told 1", "egg 2", "eater 2", "minute 1",
        "put 1", "takeOut 1", "crown 1", "cutToast 1", "drift 1", "undo 0", "wish 2", "needs 2", "allBoiled 2",
        "dynasty 1", "liked 1", "goose 2", "whole 2", "see 2", "ages 0", "testNext 0", "write 2", "tear 0", "judge 0",
        "seed 1", "keep 1", "goBack 1"};

    public static void main(String[] args) throws Exception {
        face();
        constants();
        classesInside();
        parameters();
        source();
        library();
        madeInConstructors();
        room();
        due.end("LanguageTest");
    }

    private static void face() {
        Set<String> open = new TreeSet<>();
        Set<String> names = new TreeSet<>();
        for (String line : FACE) {
            names.add(line.split(" ")[0]);
        }
        for (Method m : EggThrones.class.getDeclaredMethods()) {
            if (Modifier.isPrivate(m.getModifiers())) {
                due.is("private " + m.getName() + " bears a public name", names.contains(m.getName()) ? 1 : 0, 0);
                continue;
            }
            due.is(m.getName() + " is public", Modifier.isPublic(m.getModifiers()) ? 1 : 0, 1);
            due.is(m.getName() + " is static", Modifier.isStatic(m.getModifiers()) ? 1 : 0, 0);
            due.is(m.getName() + " answers an int", m.getReturnType() == int.class ? 1 : 0, 1);
            due.is(m.getName() + " takes ints", Arrays.stream(m.getParameterTypes()).allMatch(t -> t == int.class) ? 1 : 0, 1);
            open.add(m.getName() + " " + m.getParameterCount());
        }
        due.same("the public methods", open.toString(), new TreeSet<>(Arrays.asList(FACE)).toString());
        Constructor<?>[] made = EggThrones.class.getDeclaredConstructors();
        due.is("constructors", made.length, 1);
        due.is("of a public one", Modifier.isPublic(made[0].getModifiers()) ? 1 : 0, 1);
        due.is("final", Modifier.isFinal(EggThrones.class.getModifiers()) ? 1 : 0, 1);
    }

    private static void constants() {
        due.is("NONE", EggThrones.NONE, -1);
        due.is("UNKNOWN", EggThrones.UNKNOWN, -1000000001);
        due.is("OUTSIDE", EggThrones.OUTSIDE, -1000000002);
        due.is("NOT", EggThrones.NOT, -1000000003);
        due.is("FULL", EggThrones.FULL, -1000000004);
        int open = 0;
        for (Field f : EggThrones.class.getDeclaredFields()) {
            open += Modifier.isPrivate(f.getModifiers()) ? 0 : 1;
        }
        due.is("open fields", open, 5);
    }

    private static void classesInside() {
        Class<?>[] inside = EggThrones.class.getDeclaredClasses();
        due.is("at most twelve classes", inside.length < 12 ? 1 : 0, 1);
        for (Class<?> c : inside) {
            due.is(c + " is static", Modifier.isStatic(c.getModifiers()) ? 1 : 0, 1);
            due.is(c + " is not public", Modifier.isPublic(c.getModifiers()) ? 1 : 0, 0);
            due.is(c + " has no classes inside", c.getDeclaredClasses().length, 0);
            int own = 0;
            for (Field f : c.getDeclaredFields()) {
                own += Modifier.isStatic(f.getModifiers()) ? 0 : 1;
                boolean fixed = !Modifier.isStatic(f.getModifiers()) || Modifier.isFinal(f.getModifiers());
                due.is(f + " is no static state", fixed ? 1 : 0, 1);
            }
            due.is(c + " has at most twenty fields", own <= 20 ? 1 : 0, 1);
        }
    }

    private static Class<?>[] classes() {
        Class<?>[] inside = EggThrones.class.getDeclaredClasses();
        Class<?>[] all = Arrays.copyOf(inside, inside.length + 1);
        all[inside.length] = EggThrones.class;
        return all;
    }

    private static void parameters() {
        for (Class<?> c : classes()) {
            for (Method m : c.getDeclaredMethods()) {
                due.is(m + " takes at most seven", m.getParameterCount() <= 7 ? 1 : 0, 1);
            }
            for (Constructor<?> made : c.getDeclaredConstructors()) {
                due.is(made + " takes at most seven", made.getParameterCount() <= 7 ? 1 : 0, 1);
            }
        }
    }

    private static String code() throws Exception {
        String all = Files.readString(Path.of("src/main/java/EggThrones.java"));
        return all.replaceAll("(?s)/\\*.*?\\*/", " ").replaceAll("//[^\n]*", " ");
    }

    /** All words with a capital that stand ahead of a point or behind 'new' are the file's own, or of the library's few. */
    private static void library() throws Exception {
        Set<String> own = new TreeSet<>();
        for (Class<?> c : classes()) {
            own.add(c.getSimpleName());
        }
        Matcher used = Pattern.compile("\\b([A-Z][a-z]\\w*)\\.(\\w+)").matcher(code());
        while (used.find()) {
            boolean isFine = own.contains(used.group(1)) || LIBRARY.contains(used.group());
            due.is("the file uses " + used.group(), isFine ? 1 : 0, 1);
        }
        Matcher made = Pattern.compile("\\bnew\\s+(\\w+)").matcher(code());
        while (made.find()) {
            boolean isFine = own.contains(made.group(1)) || made.group(1).matches("int|boolean");
            due.is("the file has " + made.group(), isFine ? 1 : 0, 1);
        }
    }

    /** What is made in constructors alone is made once: so no run of calls can fill the room (this file's own rule). */
    private static void madeInConstructors() throws Exception {
        String header = "";
        for (String line : code().split("\n")) {
            if (line.matches("(    |        )[^ /}].*\\) \\{")) {
                header = line.strip();
            }
            if (Pattern.compile("\\bnew\\b").matcher(line).find()) {
                due.is("in a constructor: " + line.strip(), header.matches("(public )?[A-Z]\\w*\\([^)]*\\) \\{") ? 1 : 0, 1);
            }
        }
    }

    /** An object with all that hangs on it: some thousands of them must find room in one run. */
    private static void room() throws Exception {
        IdentityHashMap<Object, Object> found = new IdentityHashMap<>();
        int elements = count(new EggThrones(), found);
        due.is("objects: " + found.size(), found.size() <= 60 ? 1 : 0, 1);
        due.is("fields and elements: " + elements, elements <= 1200 ? 1 : 0, 1);
    }

    private static int count(Object o, IdentityHashMap<Object, Object> found) throws Exception {
        if (o == null || found.put(o, o) != null) {
            return 0;
        }
        if (o.getClass().isArray()) {
            due.is("an array of numbers", o.getClass().getComponentType().isPrimitive() ? 1 : 0, 1);
            return Array.getLength(o);
        }
        int elements = 0;
        for (Field f : o.getClass().getDeclaredFields()) {
            if (!Modifier.isStatic(f.getModifiers())) {
                f.setAccessible(true);
                elements += 1 + (f.getType().isPrimitive() ? 0 : count(f.get(o), found));
            }
        }
        return elements;
    }

    private static void source() throws Exception {
        String all = Files.readString(Path.of("src/main/java/EggThrones.java"));
        String code = code();
        String[] ruledOut = {"\\bthrow\\b", "\\bthrows\\b", "\\btry\\b", "\\bcatch\\b", "\\bsynchronized\\b", "\\bassert\\b",
            "->", "::", "\\bimport\\b", "\\bpackage\\b", "\\bprotected\\b", "Exact\\b", "\\bnew\\s+\\w+\\s*\\(\\s*\\)\\s*\\{",
            "\\bstatic\\s*\\{", "\\bSystem\\.(?!arraycopy\\b)", "\\bhashCode\\b", "\\btoString\\b", "\\bRandom\\b", "\\bThread\\b",
            "\\bwhile\\s*\\(\\s*true", "\\bfor\\s*\\(\\s*;"};
        for (String pattern : ruledOut) {
            due.is("the file has " + pattern, Pattern.compile(pattern).matcher(code).find() ? 1 : 0, 0);
        }
        due.is("signs of 1 to 127 alone", all.chars().allMatch(c -> c > 0 && c < 128) ? 1 : 0, 1);
        int longest = 0;
        int since = 0;
        String[] lines = all.split("\n");
        for (int i = 0; i < lines.length; i++) {
            if (lines[i].matches("(    |        )[^ /}].*\\) \\{")) {
                since = i;
            } else if (lines[i].matches("(    |        )\\}")) {
                longest = Math.max(longest, i - since);
            }
        }
        due.is("methods of at most sixty lines", longest > 0 && longest <= 60 ? 1 : 0, 1);
    }
}
