import java.io.IOException;
import java.io.UncheckedIOException;
import java.nio.file.Files;
import java.nio.file.Path;
import java.util.BitSet;
import java.util.LinkedHashMap;
import java.util.Map;
import java.util.function.Consumer;

/**
 * Runs a test for each sentence of the document, told by its words. The words must stand in the
 * document, once under their heading, and no word there, from the first heading to the last, may be
 * left without a test: so a sentence that is changed, or comes in, is not passed over.
 */
final class Sentences {
    private static final Path DOCUMENT = Path.of("../shared/DOC.md");
    private final Map<String, String> texts = new LinkedHashMap<>();
    private final Map<String, BitSet> tested = new LinkedHashMap<>();
    private String heading = "";
    private int tests;
    private int wrong;

    Sentences() {
        if (!Files.exists(DOCUMENT)) {
            System.out.println("no " + DOCUMENT + ": the sentences are tested, but not looked up");
            return;
        }
        String document;
        try {
            document = Files.readString(DOCUMENT);
        } catch (IOException unread) {
            throw new UncheckedIOException(unread);
        }
        for (String part : document.split("(?m)^## ")) {
            int end = part.indexOf('\n');
            if (end > 0) {
                String name = part.substring(0, end).strip();
                texts.put(name, flat(part.substring(end)));
                tested.put(name, new BitSet());
            }
        }
    }

    private static String flat(String text) {
        return text.replaceAll("```\\w*", " ").replaceAll("\\s+", " ").strip();
    }

    void in(String name) {
        heading = name;
        if (!texts.isEmpty() && !texts.containsKey(name)) {
            fault("no heading '" + name + "'");
        }
    }

    void holds(String words, Consumer<Due> test) {
        lookUp(words);
        Due due = new Due();
        test.accept(due);
        tests++;
        if (due.wrong() > 0 || due.asked() == 0) {
            fault("does not hold: " + words);
        }
    }

    /** Words that no call can show, and why. */
    void free(String words, String why) {
        lookUp(words);
        if (why.isBlank()) {
            fault("free, but why? " + words);
        }
    }

    private void lookUp(String words) {
        String text = texts.get(heading);
        if (text == null) {
            return;
        }
        int at = text.indexOf(words);
        if (at < 0 || text.indexOf(words, at + 1) >= 0) {
            fault("does not stand there just once: " + words);
        } else {
            tested.get(heading).set(at, at + words.length());
        }
    }

    private void fault(String what) {
        wrong++;
        System.out.println(heading + ": " + what);
    }

    private void lookForUntested() {
        for (String name : texts.keySet()) {
            heading = name;
            String text = texts.get(name);
            int from = tested.get(name).nextClearBit(0);
            while (from < text.length()) {
                int next = tested.get(name).nextSetBit(from);
                int end = next < 0 ? text.length() : next;
                String words = text.substring(from, end).strip();
                if (words.chars().anyMatch(Character::isLetterOrDigit)) {
                    fault("has no test: " + words);
                }
                from = tested.get(name).nextClearBit(end);
            }
        }
    }

    void end(String name) {
        lookForUntested();
        System.out.println(name + ": " + tests + " sentences, " + wrong + " faults");
        if (wrong > 0 || tests == 0) {
            System.exit(1);
        }
    }
}
