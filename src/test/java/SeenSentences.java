import java.math.BigInteger;
import java.util.function.Supplier;

/** What is SEEN and written, DRAWS and IMAGES in section 3, and promises 22 to 30. */
final class SeenSentences {
    private SeenSentences() {
    }

    static void all(Sentences s) {
        s.in("Terms");
        s.holds("SEEN (6 at most) of one and the same EGG of unknown age:", SeenSentences::sixAreSeen);
        s.holds("by TEST t (1 .. 9) it tells a: its age / t.", SeenSentences::eachTest);
        s.holds("AGES (0 .. 30, a SET) by which all that is SEEN is so.", SeenSentences::ages);
        s.holds("TEST NEXT: the t by which these are told apart best: the greatest part that is alike is least;",
                SeenSentences::testNext);
        s.holds("of like ones the least; NONE: none parts them.", SeenSentences::testNextOfLikeOnes);
        s.holds("THE BOOK (15 at most) tells what EGGS are (0 .. 5):", SeenSentences::fifteenEntries);
        s.holds("WRONG: the first that is otherwise now; NONE.", SeenSentences::wrong);
        s.holds("BY DRAWS: THE SEED (0 at first: each DRAW it becomes it times 1103515245 and 12345, left over by 2 to the 31;",
                SeenSentences::seedOfDraws);
        s.holds("the DRAW of n is it / 65536, left over by n)", SeenSentences::draws);
        s.holds("n MINUTES: ahead of each, if there are EGGS, a DRAW of EGGS, of 3:", SeenSentences::twoDrawsAheadOfEach);
        s.holds("on 0 it is PUT, on 1 TAKEN out, on 2 CROWNED, if it can be.", SeenSentences::ifItCanBe);
        s.holds("IMAGES 0, 1 keep all of section 2, THE SEED.", SeenSentences::images);
    }

    static void promises(Sentences s) {
        s.in("Promise 22: see");
        s.holds("SEEN (t 1 .. 9, a 0 .. 30): how much.", SeenSentences::seen);
        s.holds("OUTSIDE,", SeenSentences::seenOutside);
        s.holds("FULL (6).", SeenSentences::seenFull);
        s.in("Promise 23: ages");
        s.holds("AGES.", SeenSentences::agesOfNothingAndOfTooMuch);
        s.in("Promise 24: testNext");
        s.holds("TEST NEXT; NONE.", SeenSentences::testNextOrNone);
        s.in("Promise 25: write");
        s.holds("An entry behind THE BOOK (0 .. 5): how many.", SeenSentences::written);
        s.holds("UNKNOWN,", due -> due.bounds("write(n, 0)", (x, n) -> x.write(n, 0), 0, 3, Due.UNKNOWN));
        s.holds(" OUTSIDE,", due -> due.bounds("write(3, n)", (x, n) -> x.write(3, n), 0, 5, Due.OUTSIDE));
        s.holds("FULL (15).", SeenSentences::bookIsFull);
        s.in("Promise 26: tear");
        s.holds("Nothing SEEN, THE BOOK is empty: how much both had.", SeenSentences::torn);
        s.in("Promise 27: judge");
        s.holds("WRONG; NONE.", SeenSentences::judged);
        s.in("Promise 28: seed");
        s.holds("THE SEED becomes v (0 .. 2147483647): what it was.", SeenSentences::seedBecomes);
        s.holds("OUTSIDE.", due -> due.bounds("seed(n)", (x, n) -> x.seed(n), 0, Integer.MAX_VALUE, Due.OUTSIDE));
        s.in("Promise 29: keep");
        s.holds("IMAGE i becomes what is so (nothing can be undone then): 1.", SeenSentences::kept);
        s.holds("UNKNOWN.", due -> due.bounds("keep(n)", (x, n) -> x.keep(n), 0, 1, Due.UNKNOWN));
        s.in("Promise 30: goBack");
        s.holds("What is so becomes IMAGE i (nothing can be undone then): 1.", SeenSentences::goneBack);
        s.holds("UNKNOWN,", due -> due.bounds("goBack(n)", (x, n) -> x.goBack(n), 0, 1, Due.UNKNOWN));
        s.holds("NOT: it was not kept.", SeenSentences::notKept);
    }

    private static void sixAreSeen(Due due) {
        EggThrones x = new EggThrones();
        for (int i = 1; i <= 6; i++) {
            due.is("the clue " + i, x.see(1, 5), i);
        }
        due.is("a seventh", x.see(1, 6), Due.FULL);
        due.is("told(15)", x.told(15), 6);
        due.is("without the seventh", x.ages(), 32);
        for (int last = 1; last <= 6; last++) {
            EggThrones y = new EggThrones();
            for (int i = 1; i <= 6; i++) {
                y.see(9, i == last ? 1 : 0);
            }
            due.is("the clue " + last + " is otherwise", y.ages(), 0);
        }
    }

    private static void eachTest(Due due) {
        for (int t = 1; t <= 9; t++) {
            for (int age = 0; age <= 30; age++) {
                EggThrones x = new EggThrones();
                x.see(t, age / t);
                due.is("age " + age + " by test " + t, x.ages() >> age & 1, 1);
                due.is("no more ages than t", Integer.bitCount(x.ages()) <= t ? 1 : 0, 1);
            }
        }
        due.is("test 0", new EggThrones().see(0, 1), Due.OUTSIDE);
        due.is("test 10", new EggThrones().see(10, 1), Due.OUTSIDE);
    }

    private static void ages(Due due) {
        EggThrones x = new EggThrones();
        due.is("0 to 30", x.ages(), Integer.MAX_VALUE);
        x.see(9, 3);
        due.is("27 to 30, no 31", x.ages(), 0x78000000);
        x.tear();
        x.see(9, 0);
        due.is("0 to 8", x.ages(), 0x1ff);
        x.see(5, 1);
        due.is("5 to 8", x.ages(), 0x1e0);
        x.see(4, 1);
        due.is("5 to 7", x.ages(), 0xe0);
        x.see(1, 8);
        due.is("none", x.ages(), 0);
        x.tear();
        x.see(8, 4);
        due.is("32 and on are no ages", x.ages(), 0);
        x.tear();
        x.see(1, 0);
        due.is("0 alone", x.ages(), 1);
        x.tear();
        x.see(1, 30);
        due.is("30 alone", x.ages(), 1 << 30);
    }

    /** The least t whose greatest part is least, counted one age at a time. */
    private static int bestTest(int set) {
        int best = Due.NONE;
        int least = Integer.bitCount(set);
        for (int t = 1; t <= 9; t++) {
            int[] parts = new int[31];
            int greatest = 0;
            for (int age = 0; age <= 30; age++) {
                parts[age / t] += set >> age & 1;
                greatest = Math.max(greatest, parts[age / t]);
            }
            if (greatest < least) {
                least = greatest;
                best = t;
            }
        }
        return best;
    }

    private static void testNext(Due due) {
        for (int t = 1; t <= 9; t++) {
            for (int a = 0; a <= 30; a++) {
                for (int u = 1; u <= 9; u++) {
                    EggThrones x = new EggThrones();
                    x.see(t, a);
                    x.see(u, t * a / u);
                    due.is("behind see(" + t + ", " + a + "), see(" + u + ", ..)", x.testNext(), bestTest(x.ages()));
                }
            }
        }
    }

    private static void testNextOfLikeOnes(Due due) {
        EggThrones x = new EggThrones();
        x.see(2, 4);
        due.is("8 and 9", x.ages(), 3 << 8);
        due.is("by 1, 3 and 9 alike", x.testNext(), 1);
        for (int age = 0; age <= 30; age++) {
            EggThrones one = new EggThrones();
            one.see(1, age);
            due.is(age + " alone: none parts it", one.testNext(), Due.NONE);
        }
        x.see(1, 20);
        due.is("no age: none parts them", x.testNext(), Due.NONE);
    }

    private static void fifteenEntries(Due due) {
        EggThrones x = Due.toldOf("p1 0 1;e0 1;e0 1;");
        for (int i = 1; i <= 15; i++) {
            due.is("entry " + i, x.write(i % 2, 0), i);
        }
        due.is("a sixteenth", x.write(0, 1), Due.FULL);
        due.is("told(16)", x.told(16), 15);
        due.is("without the sixteenth", x.judge(), Due.NONE);
        for (int last = 0; last < 15; last++) {
            EggThrones y = Due.toldOf("p1 0 1;e0 1;");
            for (int i = 0; i < 15; i++) {
                y.write(0, i == last ? 5 : 0);
            }
            due.is("each of the fifteen is read", y.judge(), last);
        }
        due.is("-1", x.write(0, -1), Due.OUTSIDE);
        due.is("6", x.write(0, 6), Due.OUTSIDE);
    }

    private static void wrong(Due due) {
        EggThrones x = Due.toldOf("p2 99 2;e0 1;e0 1;");
        due.is("of nothing written", x.judge(), Due.NONE);
        x.write(1, 0);
        x.write(0, 1);
        x.write(1, 1);
        x.write(0, 2);
        due.is("the first of three", x.judge(), 1);
        x.put(0);
        due.is("as it is now", x.judge(), 2);
        x.put(1);
        due.is("the first is otherwise now", x.judge(), 0);
        x.undo();
        x.undo();
        due.is("as it is again", x.judge(), 1);
        x.tear();
        x.write(0, 0);
        x.write(1, 0);
        due.is("all is so", x.judge(), Due.NONE);
    }

    private static int seedBehind(int seed, int draws) {
        BigInteger s = BigInteger.valueOf(seed);
        for (int i = 0; i < draws; i++) {
            s = s.multiply(BigInteger.valueOf(1103515245)).add(BigInteger.valueOf(12345)).mod(BigInteger.ONE.shiftLeft(31));
        }
        return s.intValueExact();
    }

    private static void seedOfDraws(Due due) {
        due.is("0 at first", new EggThrones().seed(0), 0);
        int[] seeds = {0, 1, 2, 3, 12345, 65535, 65536, 1 << 30, (1 << 30) + 1, Integer.MAX_VALUE - 1, Integer.MAX_VALUE,
            1103515245, 2147471302};
        for (int seed : seeds) {
            for (int minutes : new int[] {1, 2, 60}) {
                EggThrones x = Due.toldOf("p1 0 1;e0 1;");
                x.seed(seed);
                x.drift(minutes);
                due.is("from " + seed + " by " + minutes, x.seed(0), seedBehind(seed, 2 * minutes));
            }
        }
        EggThrones first = Due.toldOf("p1 0 1;e0 1;");
        first.drift(1);
        due.is("from 0 at first", first.seed(0), seedBehind(0, 2));
    }

    private static int drawFrom(int seed, int draws, int n) {
        return seedBehind(seed, draws) / 65536 % n;
    }

    private static void draws(Due due) {
        for (int eggs = 1; eggs <= 7; eggs++) {
            for (int i = 0; i < 60; i++) {
                int seed = i % 2 == 0 ? i : Integer.MAX_VALUE - i * 1000003;
                EggThrones x = Due.toldOf("p1 0 9;" + "e0 1;".repeat(eggs));
                x.seed(seed);
                x.drift(1);
                boolean isPut = drawFrom(seed, 2, 3) == 0;
                due.is("the EGG of " + eggs + " from " + seed, x.told(11), isPut ? 1 << drawFrom(seed, 1, eggs) : 0);
            }
        }
    }

    private static void twoDrawsAheadOfEach(Due due) {
        EggThrones bare = Due.toldOf("p1 9 9;m0 1;");
        bare.seed(77);
        due.is("drift(60) without EGGS", bare.drift(60), 0);
        due.is("MINUTES", bare.told(6), 60);
        due.is("no DRAW without EGGS", bare.seed(0), 77);
        for (int n = 1; n <= 60; n++) {
            EggThrones x = Due.toldOf("p1 9 9;e0 1;");
            x.seed(77);
            x.drift(n);
            due.is("two DRAWS in each of " + n, x.seed(0), seedBehind(77, 2 * n));
        }
        for (int seed = 0; seed < 40; seed++) {
            EggThrones x = Due.toldOf("p1 9 9;e0 1;");
            x.seed(seed);
            x.drift(1);
            boolean isPut = drawFrom(seed, 2, 3) == 0;
            due.is("PUT ahead of the MINUTE, from " + seed, x.egg(0, 3), isPut ? 1 : 0);
        }
    }

    /** One MINUTE by DRAWS is what the draws tell, done by hand, and a MINUTE. */
    private static void byHand(EggThrones hand, int seed, int eggs) {
        int e = drawFrom(seed, 1, eggs);
        switch (drawFrom(seed, 2, 3)) {
            case 0: hand.put(e); break;
            case 1: hand.takeOut(e); break;
            default: hand.crown(e);
        }
        hand.minute(1);
    }

    /** Egg 0 is OUT, 1 in the PAN, 2 in the BOX; the PAN has room, there is no KING. */
    private static EggThrones open() {
        EggThrones x = Due.toldOf("p2 99 9;e0 1;e0 1;e0 1;");
        x.put(0);
        x.takeOut(0);
        x.put(1);
        return x;
    }

    /** Egg 0 is KING, 1 and 2 are in the PAN, which is full, 3 is OUT. */
    private static EggThrones shut() {
        return States.active();
    }

    /** Each of the three acts on each of the eggs comes at first by some seed, and does what it does by hand. */
    private static void likeByHand(Due due, Supplier<EggThrones> made, int eggs) {
        boolean[] came = new boolean[3 * eggs];
        for (int seed = 0; seed < 300; seed++) {
            EggThrones x = made.get();
            EggThrones hand = made.get();
            came[3 * drawFrom(seed, 1, eggs) + drawFrom(seed, 2, 3)] = true;
            x.seed(seed);
            for (int minutes = 0; minutes < 3; minutes++) {
                x.drift(1);
                byHand(hand, seedBehind(seed, 2 * minutes), eggs);
                due.same("from " + seed + ", " + minutes, Due.morningOf(x), Due.morningOf(hand));
            }
        }
        for (int i = 0; i < came.length; i++) {
            due.is("act " + i % 3 + " on egg " + i / 3 + " came", came[i] ? 1 : 0, 1);
        }
    }

    private static void ifItCanBe(Due due) {
        likeByHand(due, SeenSentences::open, 3);
        likeByHand(due, SeenSentences::shut, 4);
    }

    private static void images(Due due) {
        EggThrones x = States.active();
        String now = Due.morningOf(x);
        x.keep(0);
        x.seed(4711);
        x.drift(60);
        String later = Due.morningOf(x);
        int seed = seedBehind(4711, 120);
        x.keep(1);
        x.minute(60);
        x.cutToast(99);
        x.seed(5);
        x.goBack(0);
        due.same("IMAGE 0", Due.morningOf(x), now);
        due.is("THE SEED of IMAGE 0", x.seed(6), 79);
        x.goBack(1);
        due.same("IMAGE 1", Due.morningOf(x), later);
        due.is("THE SEED of IMAGE 1", x.seed(7), seed);
        x.goBack(0);
        due.same("IMAGE 0 again", Due.morningOf(x), now);
        due.is("THE SEED of IMAGE 0 again", x.seed(8), 79);
        due.is("no third one", x.keep(2), Due.UNKNOWN);
        due.is("none ahead of them", x.keep(-1), Due.UNKNOWN);
        x.wish(1, 6);
        x.see(1, 11);
        x.write(2, 2);
        x.goBack(1);
        due.is("a WISH is of no IMAGE", x.egg(1, 6), 6);
        due.is("what is SEEN is of no IMAGE", x.told(15), 3);
        due.is("THE BOOK is of no IMAGE", x.told(16), 3);
    }

    private static void seen(Due due) {
        int[][] pairs = {{1, 0}, {9, 30}, {1, 30}, {9, 0}};
        for (int[] pair : pairs) {
            EggThrones x = new EggThrones();
            due.is("see(" + pair[0] + ", " + pair[1] + ")", x.see(pair[0], pair[1]), 1);
            due.is("once more", x.see(pair[0], pair[1]), 2);
            due.is("told(15)", x.told(15), 2);
        }
    }

    private static void seenOutside(Due due) {
        due.bounds("see(n, 0)", (x, n) -> x.see(n, 0), 1, 9, Due.OUTSIDE);
        due.bounds("see(1, n)", (x, n) -> x.see(1, n), 0, 30, Due.OUTSIDE);
        due.is("both", new EggThrones().see(0, 31), Due.OUTSIDE);
    }

    private static void seenFull(Due due) {
        due.refused("a seventh", States::allSeen, x -> x.see(1, 0), Due.FULL);
        EggThrones x = States.allSeen();
        x.tear();
        due.is("when all is torn", x.see(1, 0), 1);
    }

    private static void agesOfNothingAndOfTooMuch(Due due) {
        due.is("of nothing", new EggThrones().ages(), Integer.MAX_VALUE);
        EggThrones x = new EggThrones();
        x.see(1, 1);
        x.see(1, 2);
        due.is("of what cannot be", x.ages(), 0);
        x.tear();
        due.is("of nothing again", x.ages(), Integer.MAX_VALUE);
    }

    private static void testNextOrNone(Due due) {
        due.is("of nothing", new EggThrones().testNext(), 1);
        EggThrones x = new EggThrones();
        x.see(9, 3);
        due.is("of four ages", x.testNext(), 1);
        x.see(1, 27);
        due.is("of one age", x.testNext(), Due.NONE);
        x.see(1, 28);
        due.is("of no age", x.testNext(), Due.NONE);
    }

    private static void written(Due due) {
        EggThrones x = Due.toldOf(Due.USUAL);
        for (int is = 0; is <= 5; is++) {
            due.is("write(0, " + is + ")", x.write(0, is), is + 1);
        }
        due.is("behind THE BOOK", x.judge(), 1);
        due.is("told(16)", x.told(16), 6);
        for (int e = 0; e < 4; e++) {
            due.is("write(" + e + ", 0)", x.write(e, 0), 7 + e);
        }
    }

    private static void bookIsFull(Due due) {
        due.refused("a sixteenth", States::allWritten, x -> x.write(0, 0), Due.FULL);
        EggThrones x = States.allWritten();
        x.tear();
        due.is("when all is torn", x.write(0, 0), 1);
    }

    private static void torn(Due due) {
        due.is("of nothing", new EggThrones().tear(), 0);
        EggThrones x = States.allSeen();
        for (int i = 0; i < 13; i++) {
            x.write(2, 5);
        }
        due.is("the most", x.tear(), 21);
        due.is("nothing SEEN", x.told(15), 0);
        due.is("all ages", x.ages(), Integer.MAX_VALUE);
        due.is("no BOOK", x.told(16), 0);
        due.is("nothing is WRONG", x.judge(), Due.NONE);
        due.is("again", x.tear(), 0);
        x.see(1, 1);
        due.is("one that is SEEN", x.tear(), 1);
        x.write(0, 0);
        due.is("one entry", x.tear(), 1);
        due.is("what can be undone stays", x.told(17), 4);
    }

    private static void judged(Due due) {
        due.is("of a new one", new EggThrones().judge(), Due.NONE);
        for (int is = 0; is <= 5; is++) {
            EggThrones x = Due.toldOf("p1 0 1;e0 1;");
            x.write(0, is);
            due.is("written " + is, x.judge(), is == 0 ? Due.NONE : 0);
        }
        EggThrones last = States.allWritten();
        last.tear();
        for (int i = 0; i < 14; i++) {
            last.write(0, 3);
        }
        last.write(0, 4);
        due.is("the last of fifteen", last.judge(), 14);
    }

    private static void seedBecomes(Due due) {
        EggThrones x = new EggThrones();
        int before = 0;
        for (int v : new int[] {Integer.MAX_VALUE, 0, 1, Integer.MAX_VALUE - 1, 65536, 0}) {
            due.is("seed(" + v + ")", x.seed(v), before);
            before = v;
        }
    }

    private static void kept(Due due) {
        for (int i = 0; i < 2; i++) {
            EggThrones x = States.active();
            due.is("four can be undone", x.told(17), 4);
            String now = Due.morningOf(x);
            due.is("keep(" + i + ")", x.keep(i), 1);
            due.is("nothing can be undone then", x.told(17), 0);
            due.is("undo()", x.undo(), Due.NOT);
            due.same("nothing else changes", Due.morningOf(x), now);
            due.is("THE SEED", x.seed(3), 79);
            x.minute(9);
            due.is("what comes then can be", x.undo(), 0);
            x.minute(9);
            String later = Due.morningOf(x);
            due.is("keep(" + i + ") over it", x.keep(i), 1);
            x.minute(1);
            x.goBack(i);
            due.same("the later one", Due.morningOf(x), later);
            due.is("its SEED", x.seed(0), 3);
        }
        due.is("without a table", new EggThrones().keep(1), 1);
    }

    private static void goneBack(Due due) {
        for (int i = 0; i < 2; i++) {
            EggThrones x = States.active();
            due.is("goBack(" + i + ")", x.goBack(i), 1);
            due.is("nothing can be undone then", x.told(17), 0);
            due.is("undo()", x.undo(), Due.NOT);
            due.is("told(6)", x.told(6), 3);
            due.is("told(7)", x.told(7), Due.NONE);
            due.is("egg 0", x.egg(0, 2), 1 + i);
            due.is("THE SEED", x.seed(0), 77 + i);
            x.minute(1);
            due.is("what comes then can be", x.undo(), 0);
            x.minute(5);
            due.is("goBack(" + i + ") again", x.goBack(i), 1);
            due.is("told(6) again", x.told(6), 3);
        }
    }

    private static EggThrones keptOnly(int i) {
        EggThrones x = States.active();
        x.table();
        Due.tell(x, Due.USUAL);
        x.keep(i);
        x.minute(1);
        return x;
    }

    private static void notKept(Due due) {
        due.is("of a new one", new EggThrones().goBack(0), Due.NOT);
        due.is("of a new one, 1", new EggThrones().goBack(1), Due.NOT);
        due.refused("0 where 1 is kept", () -> keptOnly(1), x -> x.goBack(0), Due.NOT);
        due.refused("1 where 0 is kept", () -> keptOnly(0), x -> x.goBack(1), Due.NOT);
        EggThrones x = States.active();
        Due.tell(x, Due.USUAL);
        due.is("kept ahead of table()", x.goBack(0), Due.NOT);
        due.is("kept ahead of table(), 1", x.goBack(1), Due.NOT);
        EggThrones y = States.active();
        Due.tell(y, "x");
        due.is("kept ahead of a FAULT", y.goBack(0), 1);
    }
}
