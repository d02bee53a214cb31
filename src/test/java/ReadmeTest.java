import java.lang.reflect.Method;
import java.lang.reflect.Modifier;
import java.nio.file.Files;
import java.nio.file.Path;
import java.util.regex.Matcher;
import java.util.regex.Pattern;

/** README.md says how to use the class: its lines are run, and held against the answers beside them. */
public final class ReadmeTest {
    private static final Pattern FED = Pattern.compile("for \\(char letter : \"([^\"]*)\"\\.toCharArray\\(\\)\\) x\\.feed\\(letter\\);");
    private static final Pattern LINE = Pattern.compile("x\\.(\\w+)\\(([^)]*)\\);\\s+// (-?\\d+|[A-Z]+).*");
    private static final Due due = new Due();

    public static void main(String[] args) throws Exception {
        String readme = Files.readString(Path.of("README.md"));
        use(readme);
        everyCall(readme);
        due.end("ReadmeTest");
    }

    private static void use(String readme) throws Exception {
        int from = readme.indexOf("```java\n");
        int to = readme.indexOf("```\n", from + 1);
        due.is("there are lines to run", from >= 0 && to > from ? 1 : 0, 1);
        EggThrones x = new EggThrones();
        int calls = 0;
        for (String line : readme.substring(from, to).split("\n")) {
            Matcher fed = FED.matcher(line);
            Matcher call = LINE.matcher(line);
            if (fed.matches()) {
                Due.feedAll(x, fed.group(1));
            } else if (call.matches()) {
                due.is(line, answer(x, call.group(1), call.group(2)), wanted(call.group(3)));
                calls++;
            } else if (line.startsWith("x.")) {
                due.is("tells no answer: " + line, 1, 0);
            }
        }
        due.is("twenty lines or more", calls >= 20 ? 1 : 0, 1);
    }

    private static int answer(EggThrones x, String name, String numbers) throws Exception {
        String[] parts = numbers.isBlank() ? new String[0] : numbers.split(",");
        Object[] given = new Object[parts.length];
        Class<?>[] types = new Class<?>[parts.length];
        for (int i = 0; i < parts.length; i++) {
            given[i] = Integer.valueOf(parts[i].strip());
            types[i] = int.class;
        }
        return (Integer) EggThrones.class.getMethod(name, types).invoke(x, given);
    }

    private static int wanted(String said) throws Exception {
        boolean isNumber = !Character.isUpperCase(said.charAt(0));
        return isNumber ? Integer.parseInt(said) : EggThrones.class.getField(said).getInt(null);
    }

    private static void everyCall(String readme) {
        for (Method m : EggThrones.class.getDeclaredMethods()) {
            if (Modifier.isPublic(m.getModifiers())) {
                Matcher named = Pattern.compile("\n\\| `" + m.getName() + "\\(([^)]*)\\)` \\|").matcher(readme);
                due.is(m.getName() + " has a line", named.find() ? 1 : 0, 1);
                String numbers = named.reset().find() ? named.group(1) : "?";
                due.is(m.getName() + " takes", numbers.isBlank() ? 0 : numbers.split(",").length, m.getParameterCount());
            }
        }
        for (String name : new String[] {"NONE", "UNKNOWN", "OUTSIDE", "NOT", "FULL"}) {
            due.is(name + " is named", readme.contains("`" + name + "`") ? 1 : 0, 1);
        }
    }
}
