import java.io.IOException;
import java.io.UncheckedIOException;
import java.nio.file.Files;
import java.nio.file.Path;
import java.util.BitSet;
import java.util.LinkedHashMap;
import java.util.Map;
import java.util.function.Consumer;
import java.util.regex.Matcher;
import java.util.regex.Pattern;

/**
 * Runs a test for each sentence of the document, told by its words. The words must stand in the
 * document, once under their heading, and no word there that names a boundary may be left without a
 * test: so a sentence that is changed, or comes in, is not passed over.
 */
final class Sentences {
    private static final Path DOCUMENT = Path.of("../shared/DOC.md");
    private static final Pattern BOUNDARY = Pattern.compile("UNKNOWN|OUTSIDE|\\bNOT\\b|FULL\\b|\\bNONE\\b|\\.\\.|at most|at least"
            + "|empty|\\bfull\\b|no TABLE|[Nn]othing|\\bnone\\b|\\bnobody|or more|or less|no more|fewer|fewest|above|below|longer"
            + "|longest|\\bmost\\b|\\bleast\\b|the first|at first|\\blost\\b|\\bgone\\b|left over|\\bcut\\b|\\bcuts\\b|\\(0\\)|Without|\\bif\\b");

    private final Map<String, String> texts = new LinkedHashMap<>();
    private final Map<String, BitSet> tested = new LinkedHashMap<>();
    private String heading = "";
    private int tests;
    private int wrong;

    Sentences() {
        if (!Files.exists(DOCUMENT)) {
            System.out.println("no " + DOCUMENT + ": the sentences are tested, but not looked up");
            return;
        }
        String document;
        try {
            document = Files.readString(DOCUMENT);
        } catch (IOException unread) {
            throw new UncheckedIOException(unread);
        }
        for (String part : document.split("(?m)^## ")) {
            int end = part.indexOf('\n');
            if (end > 0) {
                String name = part.substring(0, end).strip();
                texts.put(name, flat(part.substring(end)));
                tested.put(name, new BitSet());
            }
        }
    }

    private static String flat(String text) {
        return text.replaceAll("\\s+", " ").strip();
    }

    void in(String name) {
        heading = name;
        if (!texts.isEmpty() && !texts.containsKey(name)) {
            fault("no heading '" + name + "'");
        }
    }

    void holds(String words, Consumer<Due> test) {
        lookUp(words);
        Due due = new Due();
        test.accept(due);
        tests++;
        if (due.wrong() > 0 || due.asked() == 0) {
            fault("does not hold: " + words);
        }
    }

    private void lookUp(String words) {
        String text = texts.get(heading);
        if (text == null) {
            return;
        }
        int at = text.indexOf(words);
        if (at < 0 || text.indexOf(words, at + 1) >= 0) {
            fault("does not stand there just once: " + words);
        } else {
            tested.get(heading).set(at, at + words.length());
        }
    }

    private void fault(String what) {
        wrong++;
        System.out.println(heading + ": " + what);
    }

    private void lookForUntested() {
        for (String name : texts.keySet()) {
            heading = name;
            Matcher m = BOUNDARY.matcher(texts.get(name));
            while ((name.equals("Terms") || name.startsWith("Promise")) && m.find()) {
                if (tested.get(name).nextClearBit(m.start()) < m.end()) {
                    String text = texts.get(name);
                    int from = Math.max(0, m.start() - 30);
                    fault("has no test: .." + text.substring(from, Math.min(text.length(), m.end() + 20)) + "..");
                }
            }
        }
    }

    void end(String name) {
        lookForUntested();
        System.out.println(name + ": " + tests + " sentences, " + wrong + " faults");
        if (wrong > 0 || tests == 0) {
            System.exit(1);
        }
    }
}
