import java.util.function.Supplier;

/** "What it is" and the Terms ahead of section 1: numbers, sets, refusals. */
final class TermsSentences {
    private TermsSentences() {
    }

    static void all(Sentences s) {
        s.in("What it is");
        s.holds("An object is used for at most 512 calls after it has been made", TermsSentences::the512thCall);
        s.in("Terms");
        s.holds("All numbers are whole; / cuts towards 0.", TermsSentences::cutsTowardsZero);
        s.holds("What has a number has it from 0 on, as it comes.", TermsSentences::numbersFromZero);
        s.holds("A SET is a whole number, bit k for k (of EGGS, if nothing else is told).", TermsSentences::sets);
        s.holds("NONE is -1.", due -> due.is("NONE", EggThrones.NONE, -1));
        s.holds("REFUSALS, of several the first in this order: ", TermsSentences::orderOfRefusals);
        s.holds("UNKNOWN (an EGG, EATER, IMAGE that there is not; bits of such)", TermsSentences::unknown);
        s.holds("OUTSIDE (another number out of its bounds)", TermsSentences::outside);
        s.holds("NOT (not now, as told)", TermsSentences::notNow);
        s.holds(", FULL. They are far below all that is counted: -1000000001 and on.", TermsSentences::farBelow);
        s.holds("What is refused changes nothing.", TermsSentences::refusedChangesNothing);
        s.holds("BILLION is 1000000000.", due -> due.is("whole(0, 0)", new EggThrones().whole(0, 0), 1000000000));
    }

    private static void the512thCall(Due due) {
        EggThrones x = Due.toldOf("p1 0 30;e0 1;");
        int calls = 14;
        for (int minutes = 1; calls < 511; minutes++, calls++) {
            due.is("minute(1)", x.minute(1), minutes);
        }
        due.is("the 512th call", x.told(6), 497);
        EggThrones y = new EggThrones();
        for (int i = 1; i <= 512; i++) {
            due.is("letter " + i, y.feed(32), i <= 240 ? i : Due.FULL);
        }
        EggThrones z = Due.toldOf("p1 0 30;e0 1;");
        for (int i = 1; i <= 249; i++) {
            due.is("cutToast(1)", z.cutToast(1), 1);
            due.is("undo()", z.undo(), 0);
        }
    }

    private static void cutsTowardsZero(Due due) {
        EggThrones x = Due.toldOf("p3 0 9;e0 5;e2 5;e3 5;e5 5;e6 5;e29 5;e30 5;");
        int[] hard = {5, 5, 6, 6, 7, 14, 15};
        for (int e = 0; e < 7; e++) {
            Due.boil(x, e, 3);
            due.is("30 less 25 and A / 3 of egg " + e, x.egg(e, 4), hard[e]);
            due.is("6 and HARD / 10 of egg " + e, x.egg(e, 5), e < 5 ? 6 : 7);
        }
        x.see(9, 0);
        due.is("0 to 8 by 9 are 0", x.ages(), 511);
        due.is("5 / 3", Due.toldOf("p1 0 1;m0 1;m0 1;m0 1;").goose(5, 2), 1);
    }

    private static void numbersFromZero(Due due) {
        EggThrones x = Due.toldOf("p1 0 1;m3 4;e7 1;m5 6;e8 2;e9 3;");
        for (int e = 0; e < 3; e++) {
            due.is("age of egg " + e, x.egg(e, 0), 7 + e);
            due.is("size of egg " + e, x.egg(e, 1), 1 + e);
        }
        due.is("egg -1", x.egg(-1, 0), Due.UNKNOWN);
        due.is("egg 3", x.egg(3, 0), Due.UNKNOWN);
        for (int m = 0; m < 2; m++) {
            due.is("L of eater " + m, x.eater(m, 0), 3 + 2 * m);
            due.is("H of eater " + m, x.eater(m, 1), 4 + 2 * m);
        }
        due.is("eater -1", x.eater(-1, 0), Due.UNKNOWN);
        due.is("eater 2", x.eater(2, 0), Due.UNKNOWN);
        x.write(2, 0);
        x.write(2, 1);
        due.is("entry 1", x.judge(), 1);
        x.put(2);
        due.is("entry 0", x.judge(), 0);
        due.is("letter 0 has a fault", Due.tell(x, "x") == -11 ? x.fault() : -2, 0);
    }

    private static void sets(Due due) {
        EggThrones x = Due.toldOf("p1 99 9;" + "e0 1;".repeat(7));
        for (int e = 0; e < 7; e++) {
            x.put(e);
            due.is("in the pan: " + e, x.told(11), 1 << e);
            due.is("the set of " + e + ", its place", x.allBoiled(1 << e, e), 0);
            due.is("the set of all but " + e, x.allBoiled(127 - (1 << e), e), Due.NONE);
            x.takeOut(e);
            due.is("out up to " + e, x.told(12), (2 << e) - 1);
            due.is("pretenders up to " + e, x.told(13), (2 << e) - 1);
            due.is("dynasty up to " + e, x.dynasty(2), (2 << e) - 1);
        }
        x.see(1, 30);
        due.is("ages: bit 30", x.ages(), 1 << 30);
    }

    private static void orderOfRefusals(Due due) {
        due.is("feed: OUTSIDE ahead of FULL", States.withFullText().feed(256), Due.OUTSIDE);
        due.is("egg: UNKNOWN ahead of OUTSIDE", States.busy().egg(4, 7), Due.UNKNOWN);
        due.is("eater: UNKNOWN ahead of OUTSIDE", States.busy().eater(3, 2), Due.UNKNOWN);
        due.is("minute: OUTSIDE ahead of NOT", States.untold().minute(61), Due.OUTSIDE);
        due.is("minute: OUTSIDE ahead of FULL", States.late().minute(0), Due.OUTSIDE);
        due.is("drift: OUTSIDE ahead of NOT", States.untold().drift(0), Due.OUTSIDE);
        due.is("drift: OUTSIDE ahead of FULL", States.late().drift(61), Due.OUTSIDE);
        due.is("put: UNKNOWN ahead of NOT", States.busy().put(4), Due.UNKNOWN);
        due.is("takeOut: UNKNOWN ahead of NOT", States.busy().takeOut(4), Due.UNKNOWN);
        due.is("crown: UNKNOWN ahead of NOT", States.busy().crown(-1), Due.UNKNOWN);
        due.is("cutToast: OUTSIDE ahead of NOT", States.untold().cutToast(100), Due.OUTSIDE);
        due.is("wish: UNKNOWN ahead of OUTSIDE", States.busy().wish(4, 7), Due.UNKNOWN);
        due.is("needs: UNKNOWN ahead of OUTSIDE", States.busy().needs(-1, 0), Due.UNKNOWN);
        due.is("allBoiled: UNKNOWN of a bit ahead of NOT", States.untold().allBoiled(1, -1), Due.UNKNOWN);
        due.is("allBoiled: UNKNOWN of an egg ahead of NOT", States.untold().allBoiled(0, 0), Due.UNKNOWN);
        due.is("goose: UNKNOWN ahead of OUTSIDE", States.busy().goose(1000, 3), Due.UNKNOWN);
        due.is("see: OUTSIDE ahead of FULL, t", States.allSeen().see(0, 0), Due.OUTSIDE);
        due.is("see: OUTSIDE ahead of FULL, a", States.allSeen().see(1, 31), Due.OUTSIDE);
        due.is("write: UNKNOWN ahead of OUTSIDE", States.busy().write(4, 6), Due.UNKNOWN);
        due.is("write: UNKNOWN ahead of FULL", States.allWritten().write(4, 0), Due.UNKNOWN);
        due.is("write: OUTSIDE ahead of FULL", States.allWritten().write(0, 6), Due.OUTSIDE);
        due.is("goBack: UNKNOWN ahead of NOT", new EggThrones().goBack(2), Due.UNKNOWN);
    }

    private static void unknown(Due due) {
        due.bounds("egg(n, 0)", (x, n) -> x.egg(n, 0), 0, 3, Due.UNKNOWN);
        due.bounds("put(n)", (x, n) -> x.put(n), 0, 3, Due.UNKNOWN);
        due.bounds("takeOut(n)", (x, n) -> x.takeOut(n), 0, 3, Due.UNKNOWN);
        due.bounds("crown(n)", (x, n) -> x.crown(n), 0, 3, Due.UNKNOWN);
        due.bounds("wish(n, 2)", (x, n) -> x.wish(n, 2), 0, 3, Due.UNKNOWN);
        due.bounds("needs(n, 2)", (x, n) -> x.needs(n, 2), 0, 3, Due.UNKNOWN);
        due.bounds("write(n, 2)", (x, n) -> x.write(n, 2), 0, 3, Due.UNKNOWN);
        due.bounds("allBoiled(15, n)", (x, n) -> x.allBoiled(15, n), -1, 3, Due.UNKNOWN);
        due.bounds("allBoiled(n, -1)", (x, n) -> x.allBoiled(n, -1), 0, 15, Due.UNKNOWN);
        due.bounds("eater(n, 0)", (x, n) -> x.eater(n, 0), 0, 2, Due.UNKNOWN);
        due.bounds("liked(n)", (x, n) -> x.liked(n), -1, 2, Due.UNKNOWN);
        due.bounds("goose(9, n)", (x, n) -> x.goose(9, n), 0, 2, Due.UNKNOWN);
        due.bounds("keep(n)", (x, n) -> x.keep(n), 0, 1, Due.UNKNOWN);
        due.bounds("goBack(n)", (x, n) -> x.goBack(n), 0, 1, Due.UNKNOWN);
        for (int bit = 0; bit < 32; bit++) {
            int set = 1 << bit;
            due.is("bit " + bit, States.busy().allBoiled(set, -1) == Due.UNKNOWN ? 1 : 0, bit < 4 ? 0 : 1);
            due.is("bit " + bit + " besides", States.busy().allBoiled(set | 1, 0) == Due.UNKNOWN ? 1 : 0, bit < 4 ? 0 : 1);
            due.is("bit " + bit + " without a table", new EggThrones().allBoiled(set, -1), Due.UNKNOWN);
        }
    }

    private static void outside(Due due) {
        due.bounds("feed(n)", (x, n) -> x.feed(n), 0, 255, Due.OUTSIDE);
        due.bounds("told(n)", (x, n) -> x.told(n), 0, 17, Due.OUTSIDE);
        due.bounds("egg(0, n)", (x, n) -> x.egg(0, n), 0, 6, Due.OUTSIDE);
        due.bounds("eater(0, n)", (x, n) -> x.eater(0, n), 0, 1, Due.OUTSIDE);
        due.bounds("minute(n)", (x, n) -> x.minute(n), 1, 60, Due.OUTSIDE);
        due.bounds("cutToast(n)", (x, n) -> x.cutToast(n), 1, 99, Due.OUTSIDE);
        due.bounds("drift(n)", (x, n) -> x.drift(n), 1, 60, Due.OUTSIDE);
        due.bounds("wish(0, n)", (x, n) -> x.wish(0, n), 1, 6, Due.OUTSIDE);
        due.bounds("needs(0, n)", (x, n) -> x.needs(0, n), 1, 99, Due.OUTSIDE);
        due.bounds("dynasty(n)", (x, n) -> x.dynasty(n), 0, 2, Due.OUTSIDE);
        due.bounds("goose(n, 0)", (x, n) -> x.goose(n, 0), 0, 999, Due.OUTSIDE);
        due.bounds("whole(n, 1)", (x, n) -> x.whole(n, 1), 0, 60, Due.OUTSIDE);
        due.bounds("whole(1, n)", (x, n) -> x.whole(1, n), 0, 100, Due.OUTSIDE);
        due.bounds("see(n, 1)", (x, n) -> x.see(n, 1), 1, 9, Due.OUTSIDE);
        due.bounds("see(1, n)", (x, n) -> x.see(1, n), 0, 30, Due.OUTSIDE);
        due.bounds("write(0, n)", (x, n) -> x.write(0, n), 0, 5, Due.OUTSIDE);
        due.bounds("seed(n)", (x, n) -> x.seed(n), 0, Integer.MAX_VALUE, Due.OUTSIDE);
    }

    private static void notNow(Due due) {
        due.is("minute(1)", new EggThrones().minute(1), Due.NOT);
        due.is("drift(1)", new EggThrones().drift(1), Due.NOT);
        due.is("cutToast(1)", new EggThrones().cutToast(1), Due.NOT);
        due.is("allBoiled(0, -1)", new EggThrones().allBoiled(0, -1), Due.NOT);
        due.is("undo()", new EggThrones().undo(), Due.NOT);
        due.is("goBack(0)", new EggThrones().goBack(0), Due.NOT);
        due.is("put(3), a full pan", States.busy().put(3), Due.NOT);
        due.is("takeOut(0), the king", States.busy().takeOut(0), Due.NOT);
        due.is("crown(3), there is a king", States.busy().crown(3), Due.NOT);
    }

    private static void farBelow(Due due) {
        due.is("UNKNOWN", EggThrones.UNKNOWN, -1000000001);
        due.is("OUTSIDE", EggThrones.OUTSIDE, -1000000002);
        due.is("NOT", EggThrones.NOT, -1000000003);
        due.is("FULL", EggThrones.FULL, -1000000004);
        due.is("FULL of 240 letters", States.withFullText().feed(32), -1000000004);
    }

    private static void untouched(Due due, String name, Supplier<EggThrones> made, Due.Asked asked, int refusal, int... numbers) {
        for (int number : numbers) {
            due.refused(name + " of " + number, made, x -> asked.on(x, number), refusal);
        }
    }

    private static void refusedChangesNothing(Due due) {
        untouched(due, "feed, full", States::withFullText, (x, n) -> x.feed(n), Due.FULL, 0, 'x', 32, 255);
        untouched(due, "see, full", States::allSeen, (x, n) -> x.see(n, 0), Due.FULL, 1, 9);
        untouched(due, "write, full", States::allWritten, (x, n) -> x.write(n, 5), Due.FULL, 0, 3);
        untouched(due, "minute, full", States::late, (x, n) -> x.minute(n), Due.FULL, 1, 60);
        untouched(due, "drift, full", States::late, (x, n) -> x.drift(n), Due.FULL, 1, 60);
        untouched(due, "minute, untold", States::untold, (x, n) -> x.minute(n), Due.NOT, 1, 60);
        untouched(due, "drift, untold", States::untold, (x, n) -> x.drift(n), Due.NOT, 1, 60);
        untouched(due, "cutToast, untold", States::untold, (x, n) -> x.cutToast(n), Due.NOT, 1, 99);
        untouched(due, "allBoiled, untold", States::untold, (x, n) -> x.allBoiled(0, n), Due.NOT, -1);
        untouched(due, "undo, untold", States::untold, (x, n) -> x.undo(), Due.NOT, 0);
        untouched(due, "goBack, not kept", States::untold, (x, n) -> x.goBack(n), Due.NOT, 0);
        untouched(due, "goBack, not kept", States::small, (x, n) -> x.goBack(n), Due.NOT, 0);
        untouched(due, "put, untold", States::untold, (x, n) -> x.put(n), Due.UNKNOWN, -1, 0);
        untouched(due, "wish, untold", States::untold, (x, n) -> x.wish(n, 1), Due.UNKNOWN, -1, 0);
        untouched(due, "write, untold", States::untold, (x, n) -> x.write(n, 0), Due.UNKNOWN, -1, 0);
        // egg 0 is KING, 1 and 2 are in the full pan, 3 is OUT
        untouched(due, "put, busy", States::busy, (x, n) -> x.put(n), Due.NOT, 0, 1, 2, 3);
        untouched(due, "takeOut, busy", States::busy, (x, n) -> x.takeOut(n), Due.NOT, 0, 3);
        untouched(due, "crown, busy", States::busy, (x, n) -> x.crown(n), Due.NOT, 0, 1, 2, 3);
    }
}
