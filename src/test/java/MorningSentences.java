import java.util.ArrayList;
import java.util.List;

/** Section 2 (EGGS, MINUTES, the KING), what is UNDONE, and promises 8 to 15. */
final class MorningSentences {
    private MorningSentences() {
    }

    static void all(Sentences s) {
        s.in("Terms");
        s.holds("An EGG is 0 in the BOX (at first), 1 in the PAN, 2 OUT (it waits), 3 KING, 4 SCRAPED, 5 CRACKED.",
                MorningSentences::whatAnEggIs);
        s.holds("BOILED are the MINUTES that it was in the PAN, also in parts.", MorningSentences::boiled);
        s.holds("HARD: 10 times BOILED, less 5 times SIZE, and A / 3 (0 at least, 99 at most).", MorningSentences::hard);
        s.holds("REIGN: 1, and HARD / 10, and SIZE, MINUTES.", MorningSentences::reign);
        s.holds("A MINUTE:", MorningSentences::oneMinute);
        s.holds("each EGG in the PAN is BOILED one more; if that is above B it is CRACKED (out of the PAN).",
                MorningSentences::cracked);
        s.holds("Then, if there is a KING:", MorningSentences::minuteWithoutKing);
        s.holds("with 2 SOLDIERS or more 2 go, he has a MINUTE less;", MorningSentences::twoSoldiersGo);
        s.holds("when he has none he is SCRAPED.", MorningSentences::scraped);
        s.holds("Without 2 SOLDIERS he ABDICATES: he is in the BOX again (BOILED as it was).", MorningSentences::abdicated);
        s.holds("MINUTES, MINUTES that one was KING (REIGNED), how many were SCRAPED are counted.", MorningSentences::counted);
        s.holds("PUT: from the BOX, or OUT, into the PAN, if it holds fewer than R.", MorningSentences::put);
        s.holds("TAKEN out: OUT.", MorningSentences::takenOut);
        s.holds("CROWNED: OUT, KING for his REIGN, if there is none.", MorningSentences::crowned);
        s.holds("CUT: so many SOLDIERS more (999 at most).", MorningSentences::cut);
        s.holds("UNDONE: the latest of minute(), put(), takeOut(), crown(), cutToast(), drift() that was not refused",
                MorningSentences::latestIsUndone);
        s.holds("(20 at most are kept, the oldest are lost)", MorningSentences::twentyAreKept);
        s.holds("all of section 2 is as ahead of it; THE SEED stays.", MorningSentences::asAheadOfIt);
    }

    static void promises(Sentences s) {
        s.in("Promise 8: minute");
        s.holds("n MINUTES (1 .. 60): MINUTES.", MorningSentences::minutes);
        s.holds("OUTSIDE,", due -> due.bounds("minute(n)", (x, n) -> x.minute(n), 1, 60, Due.OUTSIDE));
        s.holds("NOT: no TABLE;", due -> withoutTable(due, "minute(n)", (x, n) -> x.minute(n), 1, 60));
        s.holds("FULL: MINUTES are above 9000.", due -> above9000(due, "minute(n)", (x, n) -> x.minute(n)));
        s.in("Promise 9: put");
        s.holds("PUT into the PAN: how many it holds.", MorningSentences::put);
        s.holds("UNKNOWN,", due -> due.bounds("put(n)", (x, n) -> x.put(n), 0, 3, Due.UNKNOWN));
        s.holds("NOT: it is neither in the BOX nor OUT, the PAN is full.", MorningSentences::notPut);
        s.in("Promise 10: takeOut");
        s.holds("TAKEN out: HARD.", MorningSentences::takenOut);
        s.holds("UNKNOWN,", due -> due.bounds("takeOut(n)", (x, n) -> x.takeOut(n), 0, 3, Due.UNKNOWN));
        s.holds("NOT: it is not in the PAN.", MorningSentences::notTakenOut);
        s.in("Promise 11: crown");
        s.holds("CROWNED: his REIGN.", MorningSentences::crowned);
        s.holds("UNKNOWN,", due -> due.bounds("crown(n)", (x, n) -> x.crown(n), 0, 3, Due.UNKNOWN));
        s.holds("NOT: it is not OUT, there is a KING.", MorningSentences::notCrowned);
        s.in("Promise 12: cutToast");
        s.holds("CUT (1 .. 99): SOLDIERS.", MorningSentences::cutWithinBounds);
        s.holds("OUTSIDE,", due -> due.bounds("cutToast(n)", (x, n) -> x.cutToast(n), 1, 99, Due.OUTSIDE));
        s.holds("NOT: no TABLE.", due -> withoutTable(due, "cutToast(n)", (x, n) -> x.cutToast(n), 1, 99));
        s.in("Promise 13: drift");
        s.holds("n MINUTES (1 .. 60) BY DRAWS: REIGNED.", MorningSentences::drifted);
        s.holds("OUTSIDE,", due -> due.bounds("drift(n)", (x, n) -> x.drift(n), 1, 60, Due.OUTSIDE));
        s.holds("NOT: no TABLE;", due -> withoutTable(due, "drift(n)", (x, n) -> x.drift(n), 1, 60));
        s.holds("FULL: MINUTES are above 9000.", due -> above9000(due, "drift(n)", (x, n) -> x.drift(n)));
        s.in("Promise 14: undo");
        s.holds("The latest is undone: how many more can be.", MorningSentences::howManyMore);
        s.holds("NOT: none.", MorningSentences::noneToUndo);
        s.in("Promise 15: wish");
        s.holds("A WISH (1 .. B; it cannot be undone): what it was.", MorningSentences::wish);
        s.holds("UNKNOWN,", due -> due.bounds("wish(n, 1)", (x, n) -> x.wish(n, 1), 0, 3, Due.UNKNOWN));
        s.holds(" OUTSIDE.", MorningSentences::wishOutside);
    }

    private static int hardOf(int boiled, int size, int age) {
        return Math.min(99, Math.max(0, 10 * boiled - 5 * size + age / 3));
    }

    private static void whatAnEggIs(Due due) {
        EggThrones x = Due.toldOf("p3 99 2;" + "e0 1;".repeat(7));
        for (int e = 0; e < 7; e++) {
            due.is("at first: egg " + e, x.egg(e, 2), 0);
        }
        for (int e = 0; e < 3; e++) {
            x.put(e);
            due.is("in the PAN: egg " + e, x.egg(e, 2), 1);
        }
        x.takeOut(0);
        x.takeOut(1);
        due.is("OUT", x.egg(1, 2), 2);
        x.crown(0);
        due.is("KING", x.egg(0, 2), 3);
        x.minute(3);
        due.is("SCRAPED", x.egg(0, 2), 4);
        due.is("OUT still: it waits", x.egg(1, 2), 2);
        due.is("CRACKED", x.egg(2, 2), 5);
        due.is("in the BOX still", x.egg(3, 2), 0);
    }

    private static void boiled(Due due) {
        EggThrones x = Due.toldOf("p1 99 9;e0 1;e0 1;");
        for (int part = 1; part <= 3; part++) {
            x.minute(2);
            due.is("ahead of part " + part, x.egg(0, 3), part * (part - 1) / 2);
            x.put(0);
            due.is("at once", x.egg(0, 3), part * (part - 1) / 2);
            x.minute(part);
            due.is("behind part " + part, x.egg(0, 3), part * (part + 1) / 2);
            x.takeOut(0);
        }
        due.is("the other one", x.egg(1, 3), 0);
        x.crown(0);
        x.minute(2);
        due.is("as KING", x.egg(0, 3), 6);
        x.minute(60);
        due.is("SCRAPED", x.egg(0, 3), 6);
    }

    private static void hard(Due due) {
        for (int size = 1; size <= 5; size++) {
            for (int age : new int[] {0, 2, 3, 14, 15, 17, 18, 29, 30}) {
                EggThrones x = Due.toldOf("p1 0 30;e" + age + " " + size + ";");
                x.put(0);
                for (int boiled = 0; boiled <= 30; boiled++) {
                    due.is("SIZE " + size + ", A " + age + ", BOILED " + boiled, x.egg(0, 4), hardOf(boiled, size, age));
                    x.minute(1);
                }
                due.is("CRACKED at 31", x.egg(0, 4), 99);
            }
        }
        EggThrones x = Due.toldOf("p1 0 30;e0 5;e15 1;e18 1;");
        due.is("25 below 0", x.egg(0, 4), 0);
        due.is("just 0", x.egg(1, 4), 0);
        due.is("just 1", x.egg(2, 4), 1);
        x.put(2);
        x.minute(9);
        due.is("91", x.egg(2, 4), 91);
        x.minute(1);
        due.is("101 is 99", x.egg(2, 4), 99);
    }

    private static void reign(Due due) {
        for (int size = 1; size <= 5; size++) {
            EggThrones x = Due.toldOf("p1 0 30;e29 " + size + ";");
            due.is("least of SIZE " + size, x.egg(0, 5), 1 + size + hardOf(0, size, 29) / 10);
            x.put(0);
            for (int boiled = 1; boiled <= 30; boiled++) {
                x.minute(1);
                due.is("SIZE " + size + ", BOILED " + boiled, x.egg(0, 5), 1 + hardOf(boiled, size, 29) / 10 + size);
            }
            due.is("most of SIZE " + size, x.egg(0, 5), 10 + size);
        }
    }

    private static void cracked(Due due) {
        for (int most : new int[] {1, 2, 29, 30}) {
            EggThrones x = Due.toldOf("p1 0 " + most + ";e0 1;e0 1;");
            x.put(0);
            x.minute(most);
            due.is("as long as B is no crack", x.egg(0, 2), 1);
            due.is("BOILED B", x.egg(0, 3), most);
            due.is("the PAN is full", x.put(1), Due.NOT);
            x.minute(1);
            due.is("above B is a crack", x.egg(0, 2), 5);
            due.is("BOILED one more than B", x.egg(0, 3), most + 1);
            due.is("out of the PAN", x.told(11), 0);
            due.is("its place is free", x.put(1), 1);
            x.minute(60);
            due.is("BOILED no more", x.egg(0, 3), most + 1);
            due.is("within one call", x.egg(1, 3), most + 1);
        }
        EggThrones parts = Due.toldOf("p1 0 2;e0 1;");
        Due.boil(parts, 0, 2);
        due.is("OUT at B", parts.egg(0, 2), 2);
        parts.put(0);
        parts.minute(1);
        due.is("a crack in parts", parts.egg(0, 2), 5);
    }

    /** One minute is one for the eggs in the pan, for the king and for the count, and for no other egg. */
    private static void oneMinute(Due due) {
        EggThrones x = Due.toldOf("p2 9 3;e0 1;e0 1;e0 1;e0 1;e0 1;");
        for (int e = 0; e < 2; e++) {
            Due.boil(x, e, 2);
        }
        x.crown(0);
        x.put(2);
        x.put(3);
        int[] boiled = {2, 2, 1, 1, 0};
        int[] states = {3, 2, 1, 1, 0};
        due.is("minute(1)", x.minute(1), 5);
        for (int e = 0; e < 5; e++) {
            due.is("BOILED of " + e, x.egg(e, 3), boiled[e]);
            due.is("what is " + e, x.egg(e, 2), states[e]);
        }
        due.is("SOLDIERS", x.told(1), 7);
        due.is("MINUTES that he has yet", x.told(8), 2);
        EggThrones y = Due.toldOf("p2 9 3;e0 1;e0 1;e0 1;");
        EggThrones z = Due.toldOf("p2 9 3;e0 1;e0 1;e0 1;");
        for (EggThrones one : new EggThrones[] {y, z}) {
            one.put(0);
            one.takeOut(0);
            one.crown(0);
            one.put(1);
        }
        for (int i = 0; i < 7; i++) {
            y.minute(1);
        }
        z.minute(7);
        due.same("seven are as one and one", Due.morningOf(z), Due.morningOf(y));
    }

    private static void minuteWithoutKing(Due due) {
        EggThrones x = Due.toldOf("p1 5 9;e0 1;");
        x.put(0);
        x.minute(3);
        x.takeOut(0);
        x.minute(57);
        due.is("no SOLDIERS go", x.told(1), 5);
        due.is("nobody REIGNED", x.told(9), 0);
        due.is("nobody is SCRAPED", x.told(10), 0);
        due.is("it waits", x.egg(0, 2), 2);
    }

    /** An egg of size 5 that is not hard at all, KING for 6 MINUTES over so many soldiers. */
    private static EggThrones kingOver(int soldiers) {
        EggThrones x = Due.toldOf("p1 " + soldiers + " 9;e0 5;e0 1;");
        x.put(0);
        x.minute(1);
        x.takeOut(0);
        x.crown(0);
        return x;
    }

    private static void twoSoldiersGo(Due due) {
        for (int soldiers : new int[] {2, 3, 4, 99}) {
            EggThrones x = kingOver(soldiers);
            due.is("his MINUTES of " + soldiers, x.told(8), 6);
            x.minute(1);
            due.is("two of " + soldiers, x.told(1), soldiers - 2);
            due.is("a MINUTE less", x.told(8), 5);
            due.is("KING yet", x.told(7), 0);
            due.is("he is KING yet", x.egg(0, 2), 3);
        }
    }

    private static void scraped(Due due) {
        for (int soldiers : new int[] {12, 13, 99}) {
            EggThrones x = kingOver(soldiers);
            x.minute(5);
            due.is("his last MINUTE", x.told(8), 1);
            due.is("KING in it", x.egg(0, 2), 3);
            x.minute(1);
            due.is("SCRAPED", x.egg(0, 2), 4);
            due.is("no KING", x.told(7), Due.NONE);
            due.is("no MINUTES", x.told(8), 0);
            due.is("so many SOLDIERS are left", x.told(1), soldiers - 12);
            x.minute(1);
            due.is("no more go", x.told(1), soldiers - 12);
            due.is("how many", x.told(10), 1);
        }
    }

    private static void abdicated(Due due) {
        for (int soldiers = 0; soldiers <= 11; soldiers++) {
            EggThrones x = kingOver(soldiers);
            x.minute(soldiers / 2 + 1);
            due.is("in the BOX, of " + soldiers, x.egg(0, 2), 0);
            due.is("BOILED as it was", x.egg(0, 3), 1);
            due.is("no KING", x.told(7), Due.NONE);
            due.is("no MINUTES of his", x.told(8), 0);
            due.is("none or one SOLDIER is left", x.told(1), soldiers % 2);
            due.is("none is SCRAPED", x.told(10), 0);
            due.is("it can be PUT", x.put(0), 1);
            x.minute(1);
            due.is("BOILED on", x.egg(0, 3), 2);
        }
        EggThrones x = kingOver(10);
        x.minute(5);
        due.is("KING yet, without SOLDIERS", x.told(7), 0);
        x.cutToast(2);
        x.minute(1);
        due.is("two SOLDIERS in time", x.egg(0, 2), 4);
    }

    private static void counted(Due due) {
        EggThrones x = kingOver(12);
        due.is("MINUTES ahead", x.told(6), 1);
        due.is("REIGNED ahead", x.told(9), 0);
        x.minute(6);
        due.is("REIGNED by one who is SCRAPED", x.told(9), 6);
        due.is("SCRAPED", x.told(10), 1);
        x.minute(3);
        due.is("REIGNED while there is none", x.told(9), 6);
        x.put(1);
        x.takeOut(1);
        x.cutToast(2);
        x.crown(1);
        x.minute(2);
        // the MINUTE in which he ABDICATES is not one of his (NOTES.md)
        due.is("REIGNED by one who ABDICATES", x.told(9), 7);
        due.is("not SCRAPED", x.told(10), 1);
        due.is("MINUTES", x.told(6), 12);
    }

    private static void put(Due due) {
        for (int places = 1; places <= 3; places++) {
            EggThrones x = Due.toldOf("p" + places + " 0 9;" + "e0 1;".repeat(7));
            for (int e = 0; e < 7; e++) {
                due.is("from the BOX: " + e, x.put(e), e < places ? e + 1 : Due.NOT);
            }
            due.is("the PAN", x.told(11), (1 << places) - 1);
            x.takeOut(0);
            due.is("OUT", x.egg(0, 2), 2);
            due.is("from OUT", x.put(0), places);
            due.is("in the PAN", x.egg(0, 2), 1);
            due.is("full again", x.put(6), Due.NOT);
        }
    }

    private static void takenOut(Due due) {
        EggThrones x = Due.toldOf("p3 0 30;e0 5;e30 1;e0 1;");
        for (int e = 0; e < 3; e++) {
            x.put(e);
        }
        x.minute(1);
        due.is("not HARD at all", x.takeOut(0), 0);
        due.is("OUT", x.egg(0, 2), 2);
        due.is("HARD", x.takeOut(1), 15);
        x.minute(29);
        due.is("as HARD as can be", x.takeOut(2), 99);
        due.is("all OUT", x.told(12), 7);
        due.is("none in the PAN", x.told(11), 0);
    }

    private static void crowned(Due due) {
        EggThrones x = Due.toldOf("p3 99 30;e0 1;e0 5;e0 5;");
        for (int e = 0; e < 3; e++) {
            x.put(e);
        }
        x.takeOut(0);
        due.is("the least REIGN", x.crown(0), 2);
        due.is("KING", x.egg(0, 2), 3);
        due.is("told(7)", x.told(7), 0);
        due.is("told(8)", x.told(8), 2);
        x.minute(1);
        x.takeOut(1);
        due.is("there is one in his last MINUTE", x.crown(1), Due.NOT);
        x.minute(29);
        x.takeOut(2);
        due.is("the longest REIGN", x.crown(2), 15);
        x.minute(14);
        due.is("his last MINUTE", x.told(8), 1);
        due.is("there is one yet", x.crown(1), Due.NOT);
        x.minute(1);
        due.is("there is none", x.crown(1), 6);
    }

    private static void cut(Due due) {
        EggThrones x = Due.toldOf("p1 99 9;e0 1;");
        for (int i = 2; i <= 10; i++) {
            due.is("cutToast(99)", x.cutToast(99), 99 * i);
        }
        due.is("cutToast(8)", x.cutToast(8), 998);
        due.is("just 999", x.cutToast(1), 999);
        due.is("one above", x.cutToast(1), 999);
        due.is("99 above", x.cutToast(99), 999);
        due.is("told(1)", x.told(1), 999);
        due.is("two that changed nothing can be undone", x.undo(), 12);
        x.undo();
        due.is("999 yet", x.told(1), 999);
        x.undo();
        due.is("998 again", x.told(1), 998);
        due.is("998 and 2 is 999", x.cutToast(2), 999);
    }

    private static void latestIsUndone(Due due) {
        EggThrones x = Due.toldOf("p1 20 9;e0 1;e0 1;");
        List<String> ahead = new ArrayList<>();
        for (int step = 0; step < 6; step++) {
            ahead.add(Due.morningOf(x));
            switch (step) {
                case 0: x.put(0); break;
                case 1: x.minute(1); break;
                case 2: x.takeOut(0); break;
                case 3: x.crown(0); break;
                case 4: x.cutToast(3); break;
                default: x.drift(2);
            }
            due.is("kept", x.told(17), step + 1);
            x.put(9);
            x.takeOut(1);
            x.crown(1);
            x.minute(0);
            x.drift(61);
            x.cutToast(0);
            x.wish(0, 3);
            due.is("refused ones are not kept, nor a wish", x.told(17), step + 1);
        }
        for (int step = 5; step >= 0; step--) {
            due.is("undo()", x.undo(), step);
            due.same("as ahead of step " + step, Due.morningOf(x), ahead.get(step));
        }
    }

    private static void twentyAreKept(Due due) {
        for (int deeds : new int[] {19, 20, 21, 39, 40, 41, 60}) {
            EggThrones x = Due.toldOf("p1 0 9;");
            for (int i = 1; i <= deeds; i++) {
                x.cutToast(1);
                due.is("kept", x.told(17), Math.min(20, i));
            }
            int kept = Math.min(20, deeds);
            for (int more = kept - 1; more >= 0; more--) {
                due.is("undo()", x.undo(), more);
                due.is("SOLDIERS", x.told(1), deeds - kept + more);
            }
            due.is("the oldest are lost", x.undo(), Due.NOT);
            due.is("SOLDIERS then", x.told(1), deeds - kept);
        }
        // undone and done by turns, all round the kept ones
        EggThrones x = Due.toldOf("p1 0 9;");
        List<Integer> kept = new ArrayList<>();
        int soldiers = 0;
        for (int turn = 0; turn < 50; turn++) {
            for (int i = 0; i < 4; i++) {
                kept.add(soldiers);
                soldiers++;
                due.is("cutToast(1)", x.cutToast(1), soldiers);
            }
            while (kept.size() > 20) {
                kept.remove(0);
            }
            soldiers = kept.remove(kept.size() - 1);
            due.is("undo()", x.undo(), kept.size());
            due.is("SOLDIERS", x.told(1), soldiers);
        }
    }

    private static void asAheadOfIt(Due due) {
        EggThrones x = States.active();
        x.minute(1);
        String ahead = Due.morningOf(x);
        x.seed(12345);
        x.drift(60);
        due.is("told(6)", x.told(6), 65);
        int seed = x.seed(7);
        due.is("THE SEED has moved", seed == 12345 ? 1 : 0, 0);
        x.seed(seed);
        due.is("undo()", x.undo(), 5);
        due.same("all of section 2", Due.morningOf(x), ahead);
        due.is("THE SEED stays", x.seed(0), seed);
        due.is("a WISH stays", x.egg(0, 6), 5);
        due.is("what is SEEN stays", x.told(15), 2);
        due.is("THE BOOK stays", x.told(16), 2);
    }

    private static void minutes(Due due) {
        for (int n = 1; n <= 60; n++) {
            EggThrones x = Due.toldOf("p1 99 30;e0 1;");
            x.put(0);
            due.is("minute(" + n + ")", x.minute(n), n);
            due.is("BOILED by minute(" + n + ")", x.egg(0, 3), Math.min(n, 31));
            due.is("minute(1) more", x.minute(1), n + 1);
            due.is("one call is one to undo", x.undo(), 2);
            due.is("undone", x.told(6), n);
        }
    }

    private static void withoutTable(Due due, String call, Due.Asked asked, int least, int most) {
        for (int number : new int[] {least, most}) {
            due.is(call + " of a new one", asked.on(new EggThrones(), number), Due.NOT);
            due.refused(call + " without a table", States::untold, x -> asked.on(x, number), Due.NOT);
            EggThrones taken = States.active();
            taken.table();
            due.is(call + " when the table is taken away", asked.on(taken, number), Due.NOT);
            EggThrones bare = Due.toldOf("p1 0 1;");
            due.is(call + " of a table without eggs", asked.on(bare, number) >= 0 ? 1 : 0, 1);
        }
    }

    private static void above9000(Due due, String call, Due.Asked asked) {
        EggThrones x = Due.toldOf("p1 0 30;");
        for (int i = 0; i < 150; i++) {
            x.minute(60);
        }
        due.is("9000 MINUTES", x.told(6), 9000);
        due.is(call + " at 9000", asked.on(x, 60) >= 0 ? 1 : 0, 1);
        due.is("MINUTES then", x.told(6), 9060);
        due.is(call + " at 9060", asked.on(x, 1), Due.FULL);
        x.undo();
        x.minute(1);
        due.is("9001 MINUTES", x.told(6), 9001);
        due.is(call + " at 9001", asked.on(x, 1), Due.FULL);
        x.undo();
        due.is(call + " at 9000 again", asked.on(x, 1) >= 0 ? 1 : 0, 1);
        due.refused(call + " above 9000", States::late, y -> asked.on(y, 1), Due.FULL);
    }

    /** Egg 0 is SCRAPED, 1 CRACKED, 2 KING, 3 OUT, 4 in the PAN of two, 5 in the BOX. */
    private static EggThrones eachState() {
        EggThrones x = Due.toldOf("p2 99 4;e0 1;e0 1;e0 5;e0 1;e0 1;e0 1;");
        x.put(0);
        x.takeOut(0);
        x.crown(0);
        x.put(1);
        x.minute(5);
        x.put(2);
        x.put(3);
        x.takeOut(2);
        x.takeOut(3);
        x.crown(2);
        x.put(4);
        x.keep(1);
        x.cutToast(1);
        return x;
    }

    private static void refusedIn(Due due, String call, Due.Asked asked, int... eggs) {
        for (int e : eggs) {
            int is = eachState().egg(e, 2);
            due.refused(call + " of one that is " + is, MorningSentences::eachState, x -> asked.on(x, e), Due.NOT);
        }
    }

    private static void notPut(Due due) {
        int[] is = {4, 5, 3, 2, 1, 0};
        for (int e = 0; e < 6; e++) {
            due.is("state of egg " + e, eachState().egg(e, 2), is[e]);
        }
        refusedIn(due, "put", (x, e) -> x.put(e), 0, 1, 2, 4);
        due.is("from OUT", eachState().put(3), 2);
        due.is("from the BOX", eachState().put(5), 2);
        for (int places = 1; places <= 3; places++) {
            String text = "p" + places + " 0 9;" + "e0 1;".repeat(5);
            int many = places;
            due.refused("put(4) into a full PAN of " + places, () -> {
                EggThrones x = Due.toldOf(text);
                for (int e = 0; e < many; e++) {
                    x.put(e);
                }
                return x;
            }, x -> x.put(4), Due.NOT);
        }
    }

    private static void notTakenOut(Due due) {
        refusedIn(due, "takeOut", (x, e) -> x.takeOut(e), 0, 1, 2, 3, 5);
        due.is("from the PAN", eachState().takeOut(4), 0);
    }

    private static void notCrowned(Due due) {
        refusedIn(due, "crown beside a KING", (x, e) -> x.crown(e), 0, 1, 2, 3, 4, 5);
        for (int e = 0; e < 6; e++) {
            EggThrones x = eachState();
            x.minute(6);
            due.is("without a KING: told(7)", x.told(7), Due.NONE);
            int is = x.egg(e, 2);
            due.is("without a KING: one that is " + is, x.crown(e), is == 2 ? 2 : Due.NOT);
        }
        EggThrones x = Due.toldOf("p1 0 9;e0 1;");
        due.is("in the BOX, without a KING", x.crown(0), Due.NOT);
        x.put(0);
        due.is("in the PAN, without a KING", x.crown(0), Due.NOT);
    }

    private static void cutWithinBounds(Due due) {
        for (int many = 1; many <= 99; many++) {
            EggThrones x = Due.toldOf("p1 50 9;");
            due.is("cutToast(" + many + ")", x.cutToast(many), 50 + many);
            due.is("told(1)", x.told(1), 50 + many);
        }
    }

    private static void drifted(Due due) {
        for (int n = 1; n <= 60; n++) {
            EggThrones x = Due.toldOf("p3 99 30;e0 1;e30 1;");
            x.seed(n);
            int reigned = x.drift(n);
            due.is("drift(" + n + ")", reigned, x.told(9));
            due.is("MINUTES", x.told(6), n);
            due.is("one call is one to undo", x.undo(), 0);
            due.is("undone", x.told(6) + x.told(9), 0);
        }
        EggThrones x = Due.toldOf("p3 99 30;e0 1;e30 1;");
        due.is("somebody REIGNED", x.drift(60) > 0 ? 1 : 0, 1);
        due.is("REIGNED in all", x.drift(60), x.told(9));
    }

    private static void howManyMore(Due due) {
        EggThrones x = Due.toldOf("p1 0 9;");
        x.cutToast(1);
        due.is("the only one", x.undo(), 0);
        x.cutToast(1);
        x.cutToast(1);
        due.is("the latest of two", x.undo(), 1);
        due.is("only the latest", x.told(1), 1);
        due.is("an undo is not undone", x.told(17), 1);
        due.is("the other one", x.undo(), 0);
        due.is("SOLDIERS", x.told(1), 0);
    }

    private static EggThrones undone() {
        EggThrones x = States.active();
        while (x.told(17) > 0) {
            x.undo();
        }
        return x;
    }

    private static void noneToUndo(Due due) {
        due.is("of a new one", new EggThrones().undo(), Due.NOT);
        due.is("of a new table", Due.toldOf(Due.USUAL).undo(), Due.NOT);
        due.refused("when all is undone", MorningSentences::undone, EggThrones::undo, Due.NOT);
        EggThrones kept = States.active();
        kept.keep(0);
        due.is("behind keep()", kept.undo(), Due.NOT);
        EggThrones back = States.active();
        back.goBack(0);
        due.is("behind goBack()", back.undo(), Due.NOT);
        EggThrones told = States.active();
        Due.tell(told, "p1 0 9;");
        due.is("behind table()", told.undo(), Due.NOT);
    }

    private static void wish(Due due) {
        for (int most : new int[] {1, 2, 30}) {
            EggThrones x = Due.toldOf("p1 0 " + most + ";e0 1;e0 1;");
            due.is("untold", x.wish(0, most), 1);
            due.is("told", x.wish(0, 1), most);
            due.is("told again", x.wish(0, most), 1);
            due.is("egg(0, 6)", x.egg(0, 6), most);
            due.is("the other one", x.egg(1, 6), 1);
            due.is("0", x.wish(0, 0), Due.OUTSIDE);
            due.is("above B", x.wish(0, most + 1), Due.OUTSIDE);
            due.is("it cannot be undone", x.undo(), Due.NOT);
            x.minute(1);
            x.wish(1, most);
            x.undo();
            due.is("it stays when another is undone", x.egg(1, 6), most);
        }
    }

    private static void wishOutside(Due due) {
        due.bounds("wish(3, n)", (x, n) -> x.wish(3, n), 1, 6, Due.OUTSIDE);
        for (int most = 1; most <= 30; most++) {
            EggThrones x = Due.toldOf("p1 0 " + most + ";e0 1;");
            for (int m = 0; m <= 31; m++) {
                due.is("wish(0, " + m + ") of " + most, x.wish(0, m) == Due.OUTSIDE ? 1 : 0, m >= 1 && m <= most ? 0 : 1);
            }
        }
    }
}
