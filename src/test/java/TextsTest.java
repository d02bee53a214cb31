/** All short texts behind some beginnings, with the table() and fault() that PlainKingdom has for them. */
public final class TextsTest {
    private static final String LETTERS = "pem; 019x";
    private static final int LONGEST = 4;
    private static final String[] BEGINNINGS = {"", "p", "p1 ", "p1 0 1;", "p1 0 1;e", "p1 0 1;m",
        "  p3 99 30 ; m9 ", "p1 0 1;" + "e0 1;".repeat(7), "p1 0 1;" + "m0 1;".repeat(5)};

    private final Due due = new Due();

    public static void main(String[] args) {
        TextsTest test = new TextsTest();
        test.goOn("", LONGEST);
        test.due.end("TextsTest");
    }

    private void goOn(String text, int more) {
        for (String beginning : BEGINNINGS) {
            compare(beginning + text);
        }
        for (int i = 0; more > 0 && i < LETTERS.length(); i++) {
            goOn(text + LETTERS.charAt(i), more - 1);
        }
    }

    private void compare(String text) {
        EggThrones x = new EggThrones();
        PlainKingdom plain = new PlainKingdom();
        for (int i = 0; i < text.length(); i++) {
            x.feed(text.charAt(i));
            plain.feed(text.charAt(i));
        }
        due.is("table() of '" + text + "'", x.table(), plain.table());
        due.is("fault() of '" + text + "'", x.fault(), plain.fault);
        for (int what = 0; what <= 4; what++) {
            due.is("told(" + what + ") of '" + text + "'", x.told(what), plain.told(what));
        }
    }
}
