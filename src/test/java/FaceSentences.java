import java.io.IOException;
import java.io.UncheckedIOException;
import java.lang.reflect.Method;
import java.lang.reflect.Modifier;
import java.nio.file.Files;
import java.nio.file.Path;
import java.util.ArrayList;
import java.util.Arrays;
import java.util.List;

/** What the document says of the file: "The public face", the parts that its calls stand in, each promise's own line. */
final class FaceSentences {
    private static final Path SOURCE = Path.of("src/main/java/EggThrones.java");
    private static final String[] CALLS = {"int feed(int letter)", "int table()", "int fault()", "int told(int what)",
        "int egg(int e, int what)", "int eater(int m, int what)", "int minute(int n)", "int put(int e)", "int takeOut(int e)",
        "int crown(int e)", "int cutToast(int many)", "int drift(int n)", "int undo()", "int wish(int e, int m)",
        "int needs(int e, int minutes)", "int allBoiled(int set, int e)", "int dynasty(int what)", "int liked(int m)",
        "int goose(int n, int m)", "int whole(int n, int q)", "int see(int t, int a)", "int ages()", "int testNext()",
        "int write(int e, int is)", "int tear()", "int judge()", "int seed(int v)", "int keep(int i)", "int goBack(int i)"};
    private static final String[] PARTS = {"the table", "what is done", "tried", "what is seen", "draws, images"};
    private static final int[] PARTS_BEGIN = {0, 6, 14, 20, 26, 29};

    private FaceSentences() {
    }

    static void all(Sentences s) {
        s.in("The public face");
        s.holds("public final class EggThrones {", FaceSentences::thisClassAlone);
        s.holds("public static final int NONE = -1, UNKNOWN = -1000000001, OUTSIDE = -1000000002, NOT = -1000000003, FULL = -1000000004;",
                FaceSentences::constants);
        s.holds("public EggThrones();", FaceSentences::constructor);
        for (String call : CALLS) {
            s.holds("public " + call + ";", due -> isOfTheFace(due, call));
        }
        s.holds("public int goBack(int i); }", FaceSentences::noOtherCall);
    }

    static void parts(Sentences s) {
        s.in("Terms");
        for (int part = 0; part < PARTS.length; part++) {
            List<String> names = namesOfPart(part);
            String words = "Ahead of the calls `" + String.join("`, `", names) + "` the interface says: ---- " + PARTS[part] + ".";
            String said = "// ---- " + PARTS[part];
            s.holds(words, due -> due.same("behind " + said, namesBehind(said).toString(), names.toString()));
        }
    }

    static void promises(Sentences s) {
        s.in("Promise 1: A new object");
        s.holds("`EggThrones()`:", FaceSentences::constructor);
        for (int i = 0; i < CALLS.length; i++) {
            String call = CALLS[i];
            s.in("Promise " + (i + 2) + ": " + nameOf(call));
            s.holds("`" + call + "`:", due -> isOfTheFace(due, call));
        }
    }

    static String source() {
        try {
            return Files.readString(SOURCE);
        } catch (IOException unread) {
            throw new UncheckedIOException(unread);
        }
    }

    private static String nameOf(String call) {
        return call.substring("int ".length(), call.indexOf('('));
    }

    private static List<String> namesOfPart(int part) {
        List<String> names = new ArrayList<>();
        for (int i = PARTS_BEGIN[part]; i < PARTS_BEGIN[part + 1]; i++) {
            names.add(nameOf(CALLS[i]));
        }
        return names;
    }

    /** The public calls that stand behind the words in the file, up to the next such words. */
    private static List<String> namesBehind(String said) {
        List<String> names = new ArrayList<>();
        boolean isBehind = false;
        for (String line : source().split("\n")) {
            if (line.strip().startsWith("// ---- ")) {
                isBehind = line.strip().equals(said);
            } else if (isBehind && line.startsWith("    public int ")) {
                names.add(nameOf(line.substring("    public ".length())));
            }
        }
        return names;
    }

    private static void thisClassAlone(Due due) {
        due.is("the class is public and final", EggThrones.class.getModifiers(), Modifier.PUBLIC | Modifier.FINAL);
        due.same("without a package", EggThrones.class.getName(), "EggThrones");
        due.same("it comes of nothing else", EggThrones.class.getSuperclass().getName(), "java.lang.Object");
        due.is("it is of no interface", EggThrones.class.getInterfaces().length, 0);
    }

    private static void constants(Due due) {
        due.is("NONE", EggThrones.NONE, -1);
        due.is("UNKNOWN", EggThrones.UNKNOWN, -1000000001);
        due.is("OUTSIDE", EggThrones.OUTSIDE, -1000000002);
        due.is("NOT", EggThrones.NOT, -1000000003);
        due.is("FULL", EggThrones.FULL, -1000000004);
        StringBuilder open = new StringBuilder();
        for (var field : EggThrones.class.getDeclaredFields()) {
            if (!Modifier.isPrivate(field.getModifiers())) {
                due.is(field + " is a constant", field.getModifiers(), Modifier.PUBLIC | Modifier.STATIC | Modifier.FINAL);
                open.append(field.getType()).append(' ').append(field.getName()).append(' ');
            }
        }
        due.same("the constants", open.toString(), "int NONE int UNKNOWN int OUTSIDE int NOT int FULL ");
    }

    private static void constructor(Due due) {
        var made = EggThrones.class.getDeclaredConstructors();
        due.is("constructors", made.length, 1);
        due.is("numbers that it takes", made[0].getParameterCount(), 0);
        due.is("it is public", made[0].getModifiers(), Modifier.PUBLIC);
    }

    /** The file has the call with these words, and the class has it as the words say. */
    private static void isOfTheFace(Due due, String call) {
        String line = "\n    public " + call + " {\n";
        due.is("in the file: " + call, source().split(java.util.regex.Pattern.quote(line), -1).length - 1, 1);
        int takes = call.contains("()") ? 0 : call.split(",").length;
        int found = 0;
        for (Method m : EggThrones.class.getDeclaredMethods()) {
            if (m.getName().equals(nameOf(call))) {
                found++;
                due.is(call + " is public, nothing else", m.getModifiers(), Modifier.PUBLIC);
                due.is(call + " takes", m.getParameterCount(), takes);
                due.is(call + " takes and gives whole numbers", m.getReturnType() == int.class
                        && Arrays.stream(m.getParameterTypes()).allMatch(t -> t == int.class) ? 1 : 0, 1);
            }
        }
        due.is("calls of the name " + nameOf(call), found, 1);
    }

    private static void noOtherCall(Due due) {
        int open = 0;
        for (Method m : EggThrones.class.getDeclaredMethods()) {
            open += Modifier.isPrivate(m.getModifiers()) ? 0 : 1;
        }
        due.is("calls that are not private", open, CALLS.length);
        List<String> inOrder = new ArrayList<>();
        for (String line : source().split("\n")) {
            if (line.startsWith("    public int ")) {
                inOrder.add(line.substring("    public ".length(), line.length() - " {".length()));
            }
        }
        due.same("the calls in the document's order", inOrder.toString(), Arrays.toString(CALLS));
    }
}
