/** "What it is": what the opening words name, each shown once by the calls that it stands for. */
final class OpeningSentences {
    private OpeningSentences() {
    }

    static void all(Sentences s) {
        s.in("What it is");
        s.free("Egg cups are thrones: in this very small kingdom, which is a breakfast table,", "a picture");
        s.holds("whoever's set upright and has his top off reigns until he's scraped,", OpeningSentences::reignsUntilScraped);
        s.holds("a soft king's popular and short,", OpeningSentences::softIsShort);
        s.holds("soldiers are of toast and go in by twos,", OpeningSentences::soldiersByTwos);
        // the Terms say where he is then: in the BOX, from which he can be PUT into the PAN
        s.holds("some abdicated into the pan,", OpeningSentences::abdicatedIntoThePan);
        s.free("timers are philosophers, cracks are scandal, a marble one is put in the nest to encourage:", "a picture");
        s.holds("a pan, toast, eggs by age, size, eaters by how hard they like them, told in a text with the first fault;",
                OpeningSentences::toldInAText);
        s.holds("minutes that pass, eggs put in the pan, taken out, crowned, cut, undone;", OpeningSentences::doneAndUndone);
        s.holds("how hard one is, how long it would reign;", OpeningSentences::howHardHowLong);
        s.holds("how long it must boil for a told reign;", due -> due.is("needs(0, 4)", usual().needs(0, 4), 3));
        s.holds("the soonest that all are boiled, by all of it;", OpeningSentences::soonest);
        s.holds("which make the longest dynasty before the toast is gone;", OpeningSentences::longestDynasty);
        s.holds("eggs to eaters by liking;", OpeningSentences::toEaters);
        s.holds("how old one is, by tests: all that fits, which test to make next;", OpeningSentences::howOld);
        s.holds("who is heir; pretenders;", OpeningSentences::heirAndPretenders);
        s.holds("what a goose egg gives each;", OpeningSentences::gooseEgg);
        s.holds("odds of a crack;", due -> due.is("whole(5, 10)", new EggThrones().whole(5, 10), 590490000));
        s.holds("reigns judged;", OpeningSentences::judged);
        s.holds("mornings by draws;", OpeningSentences::byDraws);
        s.holds("images to go on from.", OpeningSentences::goneOnFrom);
        s.free("; what later calls answer is free.", "nothing is due there");
        s.in("Terms");
        s.free("Words in capitals are told where they come first.", "how to read the document");
        for (int section = 1; section <= 3; section++) {
            s.free("======== " + section, "the number of a section");
        }
        s.in("Not promised");
        s.free("How the state is held inside the object is free, as are the speed of each call, the text of toString"
                + " and the behaviour of equals and hashCode.", "free");
        s.free("Use of one object from several threads at once is not promised to be safe.", "free");
        s.free("Nothing is promised beyond the answers and state changes described above,"
                + " and nothing about an object after its 512th call.", "free");
    }

    private static EggThrones usual() {
        return Due.toldOf(Due.USUAL);
    }

    /** Eggs 0 to 3 of the usual table are out, 36, 13, 5 and 25 hard, six minutes on. */
    private static EggThrones allOut() {
        EggThrones x = usual();
        x.put(0);
        x.put(3);
        x.minute(4);
        x.takeOut(0);
        x.takeOut(3);
        x.put(1);
        x.put(2);
        x.minute(2);
        x.takeOut(1);
        x.takeOut(2);
        return x;
    }

    private static void reignsUntilScraped(Due due) {
        EggThrones x = allOut();
        int reign = x.crown(2);
        due.is("his reign", reign, 4);
        for (int passed = 0; passed < reign; passed++) {
            due.is("king yet", x.told(7), 2);
            x.minute(1);
        }
        due.is("scraped", x.egg(2, 2), 4);
        due.is("no king", x.told(7), Due.NONE);
    }

    private static void softIsShort(Due due) {
        for (int minutes = 1; minutes <= 9; minutes++) {
            EggThrones x = Due.toldOf("p2 99 30;e0 2;e0 2;");
            Due.boil(x, 0, minutes);
            Due.boil(x, 1, minutes + 1);
            int soft = x.crown(0);
            due.is("a soft one reigns shorter, by " + minutes, soft < x.egg(1, 5) ? 1 : 0, 1);
        }
    }

    private static void soldiersByTwos(Due due) {
        EggThrones x = allOut();
        x.crown(3);
        for (int soldiers = 20; soldiers >= 6; soldiers -= 2) {
            due.is("soldiers", x.told(1), soldiers);
            x.minute(1);
        }
        due.is("they stay when he is scraped", x.told(1), 4);
        due.is("toast is cut", x.cutToast(3), 7);
    }

    private static void abdicatedIntoThePan(Due due) {
        EggThrones x = Due.toldOf("p1 1 6;e0 1;");
        Due.boil(x, 0, 2);
        x.crown(0);
        x.minute(1);
        due.is("abdicated: in the box", x.egg(0, 2), 0);
        due.is("into the pan", x.put(0), 1);
        due.is("boiled as it was", x.egg(0, 3), 2);
    }

    private static void toldInAText(Due due) {
        EggThrones x = usual();
        int[] told = {2, 20, 6, 4, 3};
        for (int what = 0; what < 5; what++) {
            due.is("told(" + what + ")", x.told(what), told[what]);
        }
        due.is("an age", x.egg(1, 0), 10);
        due.is("a size", x.egg(3, 1), 5);
        due.is("liked no softer", x.eater(1, 0), 15);
        due.is("liked no harder", x.eater(1, 1), 60);
        due.is("a text of two faults", Due.tell(x, "p1 0 1;e0 9;x"), -12);
        due.is("its first", x.fault(), 10);
    }

    private static void doneAndUndone(Due due) {
        EggThrones x = usual();
        due.is("put", x.put(0), 1);
        due.is("minutes", x.minute(3), 3);
        due.is("taken out", x.takeOut(0), 26);
        due.is("crowned", x.crown(0), 4);
        due.is("cut", x.cutToast(9), 29);
        int[] states = {3, 2, 1, 1, 0};
        for (int more = 4; more >= 0; more--) {
            due.is("undone", x.undo(), more);
            due.is("what it is then", x.egg(0, 2), states[4 - more]);
        }
        due.same("as at first", Due.allOf(x), Due.allOf(usual()));
    }

    private static void howHardHowLong(Due due) {
        EggThrones x = allOut();
        int[] hard = {36, 13, 5, 25};
        int[] reigns = {5, 4, 4, 8};
        for (int e = 0; e < 4; e++) {
            due.is("how hard is " + e, x.egg(e, 4), hard[e]);
            due.is("how long would reign " + e, x.egg(e, 5), reigns[e]);
        }
    }

    private static void soonest(Due due) {
        EggThrones x = usual();
        int[] wishes = {3, 5, 4, 6};
        int[] places = {0, 1, 1, 0};
        for (int e = 0; e < 4; e++) {
            x.wish(e, wishes[e]);
        }
        due.is("minutes", x.allBoiled(15, Due.NONE), 9);
        for (int e = 0; e < 4; e++) {
            due.is("place of " + e, x.allBoiled(15, e), places[e]);
        }
    }

    private static void longestDynasty(Due due) {
        EggThrones x = allOut();
        due.is("kings", x.dynasty(0), 2);
        due.is("minutes", x.dynasty(1), 9);
        due.is("which", x.dynasty(2), 3);
    }

    private static void toEaters(Due due) {
        EggThrones x = allOut();
        int[] eggs = {1, 3, 0};
        due.is("how many", x.liked(Due.NONE), 3);
        for (int m = 0; m < 3; m++) {
            due.is("eater " + m, x.liked(m), eggs[m]);
        }
    }

    private static void howOld(Due due) {
        EggThrones x = new EggThrones();
        x.see(5, 1);
        x.see(3, 2);
        due.is("6, 7, 8", x.ages(), 448);
        due.is("the next test", x.testNext(), 1);
        x.see(1, 7);
        due.is("7", x.ages(), 128);
        due.is("no test more", x.testNext(), Due.NONE);
    }

    private static void heirAndPretenders(Due due) {
        EggThrones x = allOut();
        due.is("heir", x.told(14), 3);
        due.is("pretenders", x.told(13), 0);
        EggThrones y = usual();
        Due.boil(y, 2, 1);
        due.is("a pretender", y.told(13), 4);
    }

    private static void gooseEgg(Due due) {
        EggThrones x = usual();
        int[] gets = {4, 3, 3};
        for (int m = 0; m < 3; m++) {
            due.is("10 spoons, eater " + m, x.goose(10, m), gets[m]);
        }
    }

    private static void judged(Due due) {
        EggThrones x = allOut();
        x.write(3, 3);
        due.is("he does not reign yet", x.judge(), 0);
        x.crown(3);
        due.is("he reigns", x.judge(), Due.NONE);
        x.minute(8);
        due.is("he reigns no more", x.judge(), 0);
    }

    private static void byDraws(Due due) {
        for (int seed = 0; seed < 4000; seed += 37) {
            EggThrones x = usual();
            x.seed(seed);
            long first = (seed * 1103515245L + 12345) % (1L << 31);
            long second = (first * 1103515245L + 12345) % (1L << 31);
            boolean isPut = second / 65536 % 3 == 0;
            due.is("nobody reigns yet", x.drift(1), 0);
            due.is("put by the draws of seed " + seed, x.told(11), isPut ? 1 << first / 65536 % 4 : 0);
            due.is("a minute", x.told(6), 1);
        }
    }

    private static void goneOnFrom(Due due) {
        EggThrones x = usual();
        x.put(0);
        x.keep(0);
        String kept = Due.morningOf(x);
        x.minute(9);
        due.is("goBack(0)", x.goBack(0), 1);
        due.same("as it was kept", Due.morningOf(x), kept);
        due.is("gone on", x.minute(1), 1);
    }
}
