import java.util.function.Supplier;
import java.util.function.ToIntFunction;

/** What the tests share: a count of wrong answers, and objects that have been told a text. */
final class Due {
    /** A call with one number left open. */
    interface Asked {
        int on(EggThrones x, int number);
    }

    static final int NONE = EggThrones.NONE;
    static final int UNKNOWN = EggThrones.UNKNOWN;
    static final int OUTSIDE = EggThrones.OUTSIDE;
    static final int NOT = EggThrones.NOT;
    static final int FULL = EggThrones.FULL;
    static final int[] FAR = {Integer.MIN_VALUE, Integer.MIN_VALUE + 1, -1000000000, -2, 1000, 1000000000, Integer.MAX_VALUE};

    /** Four eggs, three eaters, a pan of two, twenty soldiers, cracks after six minutes. */
    static final String USUAL = "p2 20 6;e3 1;e10 2;e0 3;e30 5;m0 20;m15 60;m30 99;";

    private int asked;
    private int wrong;

    void is(String call, long got, long want) {
        asked++;
        if (got != want) {
            wrong++;
            System.out.println(call + " answered " + got + ", due is " + want);
        }
    }

    int asked() {
        return asked;
    }

    int wrong() {
        return wrong;
    }

    void end(String name) {
        System.out.println(name + ": " + asked + " answers, " + wrong + " not as due");
        if (wrong != 0 || asked == 0) {
            System.exit(1);
        }
    }

    static void feedAll(EggThrones x, String text) {
        for (int i = 0; i < text.length(); i++) {
            x.feed(text.charAt(i));
        }
    }

    static int tell(EggThrones x, String text) {
        feedAll(x, text);
        return x.table();
    }

    static EggThrones toldOf(String text) {
        EggThrones x = new EggThrones();
        tell(x, text);
        return x;
    }

    /** Boils an egg that is in the box or out, and has it wait. */
    static void boil(EggThrones x, int e, int minutes) {
        x.put(e);
        x.minute(minutes);
        x.takeOut(e);
    }

    /** All of section 2 that can be asked for, as one text. */
    static String morningOf(EggThrones x) {
        StringBuilder all = new StringBuilder();
        for (int what : new int[] {1, 6, 7, 8, 9, 10, 11, 12, 13, 14}) {
            all.append(x.told(what)).append(' ');
        }
        for (int e = 0; e < x.told(3); e++) {
            all.append(x.egg(e, 2)).append('/').append(x.egg(e, 3)).append(' ');
        }
        return all.toString();
    }

    /** All that can be asked for without changing it. */
    static String allOf(EggThrones x) {
        StringBuilder all = new StringBuilder(morningOf(x));
        for (int what = 0; what <= 17; what++) {
            all.append(x.told(what)).append(' ');
        }
        for (int e = 0; e < x.told(3); e++) {
            for (int what = 0; what <= 6; what++) {
                all.append(x.egg(e, what)).append(' ');
            }
        }
        for (int m = 0; m < x.told(4); m++) {
            all.append(x.eater(m, 0)).append(' ').append(x.eater(m, 1)).append(' ');
        }
        all.append("fault ").append(x.fault()).append(' ').append(x.ages()).append(' ').append(x.judge());
        return all.toString();
    }

    void same(String what, String got, String want) {
        asked++;
        if (!got.equals(want)) {
            wrong++;
            System.out.println(what + ": is " + got + ", due is " + want);
        }
    }

    /** All that is in it, also what only later calls would show: it is used up by this. */
    static String drained(EggThrones x) {
        StringBuilder all = new StringBuilder(allOf(x));
        for (int what = 0; what <= 2; what++) {
            all.append(' ').append(x.dynasty(what));
        }
        for (int m = -1; m < x.told(4); m++) {
            all.append(' ').append(x.liked(m));
        }
        all.append(' ').append(x.testNext()).append(" seed ").append(x.seed(0));
        int more = 0;
        while (more != NOT) {
            more = x.undo();
            all.append(" undo ").append(more).append(' ').append(more == NOT ? "" : morningOf(x));
        }
        for (int i = 0; i < 2; i++) {
            all.append(" image ").append(x.goBack(i)).append(' ').append(morningOf(x)).append(x.seed(0));
        }
        all.append(" text ").append(x.table()).append(' ').append(x.fault()).append(' ').append(x.told(3));
        return all.toString();
    }

    /** The call is refused so, and nothing is changed by it. */
    void refused(String call, Supplier<EggThrones> made, ToIntFunction<EggThrones> deed, int refusal) {
        EggThrones x = made.get();
        is(call, deed.applyAsInt(x), refusal);
        same(call + " changes nothing", drained(x), drained(made.get()));
    }

    /** The call is refused so for each number out of the bounds, and not for the bounds. */
    void bounds(String call, Asked asked, int least, int most, int refusal) {
        for (int number : new int[] {least, most}) {
            int answer = asked.on(States.busy(), number);
            is(call + " of " + number + " is " + answer, answer == refusal ? 1 : 0, 0);
        }
        long[] numbers = {least - 1L, most + 1L, least - 2L, most + 2L, Integer.MIN_VALUE, Integer.MIN_VALUE + 1L, -1000000000,
            -2, 1000, 65536, 1000000000, Integer.MAX_VALUE - 1L, Integer.MAX_VALUE};
        for (long number : numbers) {
            boolean isInt = number >= Integer.MIN_VALUE && number <= Integer.MAX_VALUE;
            if (isInt && (number < least || number > most)) {
                refused(call + " of " + number, States::busy, x -> asked.on(x, (int) number), refusal);
            }
        }
    }
}
