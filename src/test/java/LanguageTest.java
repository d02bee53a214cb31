import java.lang.reflect.Constructor;
import java.lang.reflect.Field;
import java.lang.reflect.Method;
import java.lang.reflect.Modifier;
import java.nio.file.Files;
import java.nio.file.Path;
import java.util.Arrays;
import java.util.Set;
import java.util.TreeSet;
import java.util.regex.Pattern;

/** The public face, and the rules of LANGUAGE.md that can be read off the file or the class. */
public final class LanguageTest {
    private static final Due due = new Due();
    private static final String[] FACE = {"feed 1", "table 0", "fault 0", "told 1", "egg 2", "eater 2", "minute 1",
        "put 1", "takeOut 1", "crown 1", "cutToast 1", "drift 1", "undo 0", "wish 2", "needs 2", "allBoiled 2",
        "dynasty 1", "liked 1", "goose 2", "whole 2", "see 2", "ages 0", "testNext 0", "write 2", "tear 0", "judge 0",
        "seed 1", "keep 1", "goBack 1"};

    public static void main(String[] args) throws Exception {
        face();
        constants();
        classesInside();
        source();
        due.end("LanguageTest");
    }

    private static void face() {
        Set<String> open = new TreeSet<>();
        Set<String> names = new TreeSet<>();
        for (String line : FACE) {
            names.add(line.split(" ")[0]);
        }
        for (Method m : EggThrones.class.getDeclaredMethods()) {
            if (Modifier.isPrivate(m.getModifiers())) {
                due.is("private " + m.getName() + " bears a public name", names.contains(m.getName()) ? 1 : 0, 0);
                continue;
            }
            due.is(m.getName() + " is public", Modifier.isPublic(m.getModifiers()) ? 1 : 0, 1);
            due.is(m.getName() + " is static", Modifier.isStatic(m.getModifiers()) ? 1 : 0, 0);
            due.is(m.getName() + " answers an int", m.getReturnType() == int.class ? 1 : 0, 1);
            due.is(m.getName() + " takes ints", Arrays.stream(m.getParameterTypes()).allMatch(t -> t == int.class) ? 1 : 0, 1);
            open.add(m.getName() + " " + m.getParameterCount());
        }
        due.same("the public methods", open.toString(), new TreeSet<>(Arrays.asList(FACE)).toString());
        Constructor<?>[] made = EggThrones.class.getDeclaredConstructors();
        due.is("constructors", made.length, 1);
        due.is("of a public one", Modifier.isPublic(made[0].getModifiers()) ? 1 : 0, 1);
        due.is("final", Modifier.isFinal(EggThrones.class.getModifiers()) ? 1 : 0, 1);
    }

    private static void constants() {
        due.is("NONE", EggThrones.NONE, -1);
        due.is("UNKNOWN", EggThrones.UNKNOWN, -1000000001);
        due.is("OUTSIDE", EggThrones.OUTSIDE, -1000000002);
        due.is("NOT", EggThrones.NOT, -1000000003);
        due.is("FULL", EggThrones.FULL, -1000000004);
        int open = 0;
        for (Field f : EggThrones.class.getDeclaredFields()) {
            open += Modifier.isPrivate(f.getModifiers()) ? 0 : 1;
        }
        due.is("open fields", open, 5);
    }

    private static void classesInside() {
        Class<?>[] inside = EggThrones.class.getDeclaredClasses();
        due.is("at most twelve classes", inside.length < 12 ? 1 : 0, 1);
        for (Class<?> c : inside) {
            due.is(c + " is static", Modifier.isStatic(c.getModifiers()) ? 1 : 0, 1);
            due.is(c + " is not public", Modifier.isPublic(c.getModifiers()) ? 1 : 0, 0);
            due.is(c + " has no classes inside", c.getDeclaredClasses().length, 0);
            int own = 0;
            for (Field f : c.getDeclaredFields()) {
                own += Modifier.isStatic(f.getModifiers()) ? 0 : 1;
                boolean fixed = !Modifier.isStatic(f.getModifiers()) || Modifier.isFinal(f.getModifiers());
                due.is(f + " is no static state", fixed ? 1 : 0, 1);
            }
            due.is(c + " has at most twenty fields", own <= 20 ? 1 : 0, 1);
        }
    }

    private static void source() throws Exception {
        String all = Files.readString(Path.of("src/main/java/EggThrones.java"));
        String code = all.replaceAll("(?s)/\\*.*?\\*/", " ").replaceAll("//[^\n]*", " ");
        String[] ruledOut = {"\\bthrow\\b", "\\bthrows\\b", "\\btry\\b", "\\bcatch\\b", "\\bsynchronized\\b", "\\bassert\\b",
            "->", "::", "\\bimport\\b", "\\bpackage\\b", "\\bprotected\\b", "Exact\\b", "\\bnew\\s+\\w+\\s*\\(\\s*\\)\\s*\\{",
            "\\bstatic\\s*\\{", "\\bSystem\\.(?!arraycopy\\b)", "\\bhashCode\\b", "\\btoString\\b", "\\bRandom\\b", "\\bThread\\b"};
        for (String pattern : ruledOut) {
            due.is("the file has " + pattern, Pattern.compile(pattern).matcher(code).find() ? 1 : 0, 0);
        }
        due.is("signs of 1 to 127 alone", all.chars().allMatch(c -> c > 0 && c < 128) ? 1 : 0, 1);
        int longest = 0;
        int since = 0;
        String[] lines = all.split("\n");
        for (int i = 0; i < lines.length; i++) {
            if (lines[i].matches("(    |        )[^ /}].*\\) \\{")) {
                since = i;
            } else if (lines[i].matches("(    |        )\\}")) {
                longest = Math.max(longest, i - since);
            }
        }
        due.is("methods of at most sixty lines", longest > 0 && longest <= 60 ? 1 : 0, 1);
    }
}
