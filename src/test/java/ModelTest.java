import java.util.Random;

/** Random runs of at most 512 calls, each answer held against PlainKingdom's. */
public final class ModelTest {
    private static final int RUNS = 3000;
    private static final int CALLS = 512;
    private static final String[] NAMES = {"feed", "table", "fault", "told", "egg", "eater", "minute", "put", "takeOut",
        "crown", "cutToast", "drift", "undo", "wish", "needs", "allBoiled", "dynasty", "liked", "goose", "whole", "see",
        "ages", "testNext", "write", "tear", "judge", "seed", "keep", "goBack"};

    private final Due due;
    private final Random random;
    private final EggThrones x = new EggThrones();
    private final PlainKingdom plain = new PlainKingdom();
    private final StringBuilder log = new StringBuilder();
    private int calls;
    private int differences;

    private ModelTest(Due due, long run) {
        this.due = due;
        this.random = new Random(run);
    }

    public static void main(String[] args) {
        Due due = new Due();
        int reported = 0;
        for (int run = 0; run < RUNS && reported < 3; run++) {
            ModelTest test = new ModelTest(due, run);
            test.go();
            reported += test.differences;
        }
        due.end("ModelTest");
    }

    private void go() {
        if (random.nextInt(10) > 0) {
            tell(random.nextInt(8) > 0 ? goodText() : badText());
        }
        while (calls < CALLS && differences == 0) {
            int choice = random.nextInt(100);
            if (choice == 0) {
                tell(random.nextInt(3) == 0 ? goodText() : badText());
            } else {
                call(name(), argument(), argument());
            }
        }
    }

    private String name() {
        int favour = random.nextInt(4);
        if (favour == 0) {
            return NAMES[6 + random.nextInt(7)];
        }
        if (favour == 1) {
            return NAMES[7 + random.nextInt(3)];
        }
        // a table told by one random letter is of little use
        return NAMES[2 + random.nextInt(NAMES.length - 2)];
    }

    private int argument() {
        switch (random.nextInt(12)) {
            case 0: return Due.FAR[random.nextInt(Due.FAR.length)];
            case 1: return random.nextInt(140) - 5;
            case 2: return random.nextInt(1020) - 5;
            case 3: return -1;
            default: return random.nextInt(8);
        }
    }

    private String goodText() {
        StringBuilder s = new StringBuilder();
        s.append("p").append(1 + random.nextInt(3)).append(' ').append(random.nextInt(100)).append(' ');
        s.append(random.nextBoolean() ? 1 + random.nextInt(30) : 2 + random.nextInt(7)).append(';');
        int eggs = random.nextInt(8);
        int eaters = random.nextInt(6);
        while (eggs + eaters > 0) {
            if (random.nextInt(eggs + eaters) < eggs) {
                s.append('e').append(random.nextInt(31)).append(' ').append(1 + random.nextInt(5)).append(';');
                eggs--;
            } else {
                int low = random.nextInt(60);
                s.append('m').append(low).append("  ").append(low + random.nextInt(100 - low)).append(';');
                eaters--;
            }
        }
        return s.toString();
    }

    private String badText() {
        if (random.nextInt(8) == 0) {
            return " ".repeat(random.nextInt(4));
        }
        StringBuilder s = new StringBuilder(goodText());
        for (int i = random.nextInt(3); i >= 0 && s.length() > 0; i--) {
            int at = random.nextInt(s.length());
            char letter = "pem;0123456789  x".charAt(random.nextInt(17));
            switch (random.nextInt(4)) {
                case 0: s.deleteCharAt(at); break;
                case 1: s.insert(at, letter); break;
                case 2: s.setCharAt(at, letter); break;
                default: s.setLength(at);
            }
        }
        return s.toString();
    }

    private void tell(String text) {
        if (calls + text.length() + 2 > CALLS) {
            call("fault", 0, 0);
            return;
        }
        for (int i = 0; i < text.length(); i++) {
            call("feed", text.charAt(i), 0);
        }
        call("table", 0, 0);
        call("fault", 0, 0);
    }

    private void call(String name, int a, int b) {
        calls++;
        int want;
        try {
            want = ask(plain, name, a, b);
        } catch (PlainKingdom.Refused refused) {
            want = refused.answer;
        }
        int got = answer(name, a, b);
        String said = name + "(" + a + ", " + b + ")";
        log.append(said).append(" = ").append(want).append('\n');
        if (got != want) {
            differences++;
            System.out.print(log);
        }
        due.is(said, got, want);
    }

    private static int ask(PlainKingdom p, String name, int a, int b) {
        switch (name) {
            case "feed": return p.feed(a);
            case "table": return p.table();
            case "fault": return p.fault;
            case "told": return p.told(a);
            case "egg": return p.egg(a, b);
            case "eater": return p.eater(a, b);
            case "minute": return p.minute(a);
            case "put": return p.put(a);
            case "takeOut": return p.takeOut(a);
            case "crown": return p.crown(a);
            case "cutToast": return p.cutToast(a);
            case "drift": return p.drift(a);
            case "undo": return p.undo();
            case "wish": return p.wish(a, b);
            case "needs": return p.needs(a, b);
            case "allBoiled": return p.allBoiled(a, b);
            case "dynasty": return p.dynasty(a);
            case "liked": return p.liked(a);
            case "goose": return p.goose(a, b);
            case "whole": return p.whole(a, b);
            case "see": return p.see(a, b);
            case "ages": return p.ages();
            case "testNext": return p.testNext();
            case "write": return p.write(a, b);
            case "tear": return p.tear();
            case "judge": return p.judge();
            case "seed": return p.seed(a);
            case "keep": return p.keep(a);
            default: return p.goBack(a);
        }
    }

    private int answer(String name, int a, int b) {
        switch (name) {
            case "feed": return x.feed(a);
            case "table": return x.table();
            case "fault": return x.fault();
            case "told": return x.told(a);
            case "egg": return x.egg(a, b);
            case "eater": return x.eater(a, b);
            case "minute": return x.minute(a);
            case "put": return x.put(a);
            case "takeOut": return x.takeOut(a);
            case "crown": return x.crown(a);
            case "cutToast": return x.cutToast(a);
            case "drift": return x.drift(a);
            case "undo": return x.undo();
            case "wish": return x.wish(a, b);
            case "needs": return x.needs(a, b);
            case "allBoiled": return x.allBoiled(a, b);
            case "dynasty": return x.dynasty(a);
            case "liked": return x.liked(a);
            case "goose": return x.goose(a, b);
            case "whole": return x.whole(a, b);
            case "see": return x.see(a, b);
            case "ages": return x.ages();
            case "testNext": return x.testNext();
            case "write": return x.write(a, b);
            case "tear": return x.tear();
            case "judge": return x.judge();
            case "seed": return x.seed(a);
            case "keep": return x.keep(a);
            default: return x.goBack(a);
        }
    }
}
