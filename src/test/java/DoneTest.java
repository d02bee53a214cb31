/** Promises 8 to 15: minute, put, takeOut, crown, cutToast, drift, undo, wish. */
public final class DoneTest {
    private static final Due due = new Due();

    public static void main(String[] args) {
        minute();
        kingWithoutSoldiers();
        minutesAreFull();
        put();
        takeOut();
        crown();
        cutToast();
        drift();
        undo();
        undoOfEach();
        wish();
        due.end("DoneTest");
    }

    private static void minute() {
        EggThrones x = Due.toldOf(Due.USUAL);
        String before = Due.allOf(x);
        due.is("minute(0)", x.minute(0), Due.OUTSIDE);
        due.is("minute(61)", x.minute(61), Due.OUTSIDE);
        due.is("minute(-1)", x.minute(-1), Due.OUTSIDE);
        for (int far : Due.FAR) {
            due.is("minute(" + far + ")", x.minute(far), Due.OUTSIDE);
        }
        due.same("refused minutes", Due.allOf(x), before);
        due.is("minute(1)", x.minute(1), 1);
        due.is("minute(60)", x.minute(60), 61);
        due.is("soldiers stay without a king", x.told(1), 20);
        x.put(0);
        due.is("minute(6)", x.minute(6), 67);
        due.is("boiled as long as it may", x.egg(0, 2), 1);
        due.is("minute(1) more", x.minute(1), 68);
        due.is("cracked", x.egg(0, 2), 5);
        due.is("cracked at", x.egg(0, 3), 7);
        due.is("no more in the pan", x.told(11), 0);
        x.minute(5);
        due.is("cracked ones boil no more", x.egg(0, 3), 7);
        Due.boil(x, 1, 2);
        Due.boil(x, 1, 2);
        due.is("boiled in parts", x.egg(1, 3), 4);
        due.is("out ones do not boil", x.minute(3) - 77, 3);
        due.is("boiled in parts, later", x.egg(1, 3), 4);
        x.crown(1);
        x.minute(5);
        due.is("king yet", x.told(7), 1);
        due.is("his last minute", x.told(8), 1);
        due.is("reigned", x.told(9), 5);
        x.minute(1);
        due.is("scraped", x.egg(1, 2), 4);
        due.is("reigned when scraped", x.told(9), 6);
        due.is("how many scraped", x.told(10), 1);
        due.is("soldiers when scraped", x.told(1), 8);
        x.minute(9);
        due.is("soldiers later", x.told(1), 8);
        due.is("reigned later", x.told(9), 6);
        EggThrones none = new EggThrones();
        due.is("minute(61) without a table", none.minute(61), Due.OUTSIDE);
        due.is("minute(60) without a table", none.minute(60), Due.NOT);
    }

    private static void kingWithoutSoldiers() {
        EggThrones x = Due.toldOf("p1 3 9;e0 2;e0 1;");
        Due.boil(x, 0, 3);
        due.is("crown(0)", x.crown(0), 5);
        x.minute(1);
        due.is("one soldier is left", x.told(1), 1);
        due.is("king yet", x.told(7), 0);
        x.minute(1);
        due.is("no king", x.told(7), Due.NONE);
        due.is("no minutes of his", x.told(8), 0);
        due.is("he is in the box", x.egg(0, 2), 0);
        due.is("boiled as it was", x.egg(0, 3), 3);
        due.is("the soldier stays", x.told(1), 1);
        due.is("reigned once", x.told(9), 1);
        due.is("none scraped", x.told(10), 0);
        due.is("crown(0) from the box", x.crown(0), Due.NOT);
        due.is("put(0) from the box", x.put(0), 1);
        x.minute(1);
        due.is("boiled on", x.egg(0, 3), 4);
        x.takeOut(0);
        x.cutToast(20);
        due.is("crown(0) again", x.crown(0), 6);
        EggThrones last = Due.toldOf("p1 2 9;e0 1;");
        Due.boil(last, 0, 1);
        due.is("reign of two", last.crown(0), 2);
        last.minute(2);
        due.is("abdicated with a minute left", last.egg(0, 2), 0);
        EggThrones just = Due.toldOf("p1 4 9;e0 1;");
        Due.boil(just, 0, 1);
        just.crown(0);
        just.minute(2);
        due.is("scraped with the last soldiers", just.egg(0, 2), 4);
        due.is("no soldiers", just.told(1), 0);
    }

    private static void minutesAreFull() {
        EggThrones x = Due.toldOf("p1 0 30;e0 1;");
        for (int i = 0; i < 150; i++) {
            x.minute(60);
        }
        due.is("9000 minutes", x.told(6), 9000);
        due.is("minute(1) at 9000", x.minute(1), 9001);
        String before = Due.allOf(x);
        due.is("minute(1) above", x.minute(1), Due.FULL);
        due.is("minute(0) above", x.minute(0), Due.OUTSIDE);
        due.is("drift(1) above", x.drift(1), Due.FULL);
        due.is("drift(61) above", x.drift(61), Due.OUTSIDE);
        due.same("full minutes", Due.allOf(x), before);
        due.is("undo()", x.undo(), 19);
        due.is("drift(60) at 9000", x.drift(60), 0);
        due.is("told(6) behind it", x.told(6), 9060);
        due.is("cutToast(1) above", x.cutToast(1), 1);
        due.is("put(0) above", x.put(0) == 1 || x.egg(0, 2) != 0 ? 1 : 0, 1);
    }

    private static void put() {
        EggThrones x = Due.toldOf(Due.USUAL);
        due.is("put(3)", x.put(3), 1);
        due.is("put(0)", x.put(0), 2);
        String before = Due.allOf(x);
        due.is("put(1) into a full pan", x.put(1), Due.NOT);
        due.is("put(0) from the pan", x.put(0), Due.NOT);
        due.is("put(4)", x.put(4), Due.UNKNOWN);
        due.is("put(-1)", x.put(-1), Due.UNKNOWN);
        for (int far : Due.FAR) {
            due.is("put(" + far + ")", x.put(far), Due.UNKNOWN);
        }
        due.same("refused puts", Due.allOf(x), before);
        x.minute(3);
        x.takeOut(0);
        due.is("put(0) when out", x.put(0), 2);
        x.takeOut(0);
        x.crown(0);
        due.is("put(0) as king", x.put(0), Due.NOT);
        x.minute(4);
        due.is("put(0) when scraped", x.put(0), Due.NOT);
        due.is("egg 3 cracked", x.egg(3, 2), 5);
        due.is("put(3) when cracked", x.put(3), Due.NOT);
        due.is("put(1) into an empty pan", x.put(1), 1);
    }

    private static void takeOut() {
        EggThrones x = Due.toldOf(Due.USUAL);
        String before = Due.allOf(x);
        due.is("takeOut(0) from the box", x.takeOut(0), Due.NOT);
        due.is("takeOut(4)", x.takeOut(4), Due.UNKNOWN);
        due.is("takeOut(-1)", x.takeOut(-1), Due.UNKNOWN);
        for (int far : Due.FAR) {
            due.is("takeOut(" + far + ")", x.takeOut(far), Due.UNKNOWN);
        }
        due.same("refused takeOuts", Due.allOf(x), before);
        x.put(0);
        due.is("takeOut(0) at once", x.takeOut(0), 0);
        due.is("takeOut(0) when out", x.takeOut(0), Due.NOT);
        x.put(0);
        x.minute(5);
        due.is("takeOut(0)", x.takeOut(0), 46);
        x.crown(0);
        due.is("takeOut(0) as king", x.takeOut(0), Due.NOT);
    }

    private static void crown() {
        EggThrones x = Due.toldOf(Due.USUAL);
        due.is("crown(0) from the box", x.crown(0), Due.NOT);
        x.put(0);
        due.is("crown(0) from the pan", x.crown(0), Due.NOT);
        x.put(3);
        x.minute(4);
        x.takeOut(0);
        x.takeOut(3);
        String before = Due.allOf(x);
        due.is("crown(4)", x.crown(4), Due.UNKNOWN);
        due.is("crown(-1)", x.crown(-1), Due.UNKNOWN);
        for (int far : Due.FAR) {
            due.is("crown(" + far + ")", x.crown(far), Due.UNKNOWN);
        }
        due.same("refused crowns", Due.allOf(x), before);
        due.is("crown(3)", x.crown(3), 8);
        due.is("told(7)", x.told(7), 3);
        due.is("crown(3) again", x.crown(3), Due.NOT);
        due.is("crown(0) besides", x.crown(0), Due.NOT);
        x.minute(8);
        due.is("crown(0) behind him", x.crown(0), 5);
    }

    private static void cutToast() {
        EggThrones x = Due.toldOf(Due.USUAL);
        String before = Due.allOf(x);
        due.is("cutToast(0)", x.cutToast(0), Due.OUTSIDE);
        due.is("cutToast(100)", x.cutToast(100), Due.OUTSIDE);
        for (int far : Due.FAR) {
            due.is("cutToast(" + far + ")", x.cutToast(far), Due.OUTSIDE);
        }
        due.same("refused cuts", Due.allOf(x), before);
        due.is("cutToast(1)", x.cutToast(1), 21);
        for (int i = 1; i <= 9; i++) {
            due.is("cutToast(99)", x.cutToast(99), 21 + 99 * i);
        }
        due.is("cutToast(86)", x.cutToast(86), 998);
        due.is("cutToast(2) past the most", x.cutToast(2), 999);
        due.is("cutToast(99) past the most", x.cutToast(99), 999);
        due.is("it counts to be undone", x.told(17), 13);
        EggThrones none = new EggThrones();
        due.is("cutToast(0) without a table", none.cutToast(0), Due.OUTSIDE);
        due.is("cutToast(99) without a table", none.cutToast(99), Due.NOT);
    }

    private static int drawFrom(long[] seed, int n) {
        seed[0] = (seed[0] * 1103515245L + 12345L) % 2147483648L;
        return (int) (seed[0] / 65536 % n);
    }

    /** A drift is what its draws do by hand, minute by minute. */
    private static void drift() {
        for (int start : new int[] {0, 1, 5, 99, 123456789, Integer.MAX_VALUE}) {
            EggThrones x = Due.toldOf(Due.USUAL);
            EggThrones hand = Due.toldOf(Due.USUAL);
            x.seed(start);
            long[] seed = {start};
            for (int n : new int[] {1, 2, 7, 30}) {
                for (int i = 0; i < n; i++) {
                    int e = drawFrom(seed, 4);
                    int act = drawFrom(seed, 3);
                    if (act == 0) {
                        hand.put(e);
                    } else if (act == 1) {
                        hand.takeOut(e);
                    } else {
                        hand.crown(e);
                    }
                    hand.minute(1);
                }
                due.is("drift(" + n + ") from " + start, x.drift(n), hand.told(9));
                due.same("drift(" + n + ") from " + start, Due.morningOf(x), Due.morningOf(hand));
            }
            due.is("the seed behind it", x.seed(0), seed[0]);
            due.is("undo() of a drift", x.undo(), 3);
            due.is("told(6) then", x.told(6), 10);
        }
        EggThrones bare = Due.toldOf("p1 5 5;m0 9;");
        bare.seed(42);
        due.is("drift(3) without eggs", bare.drift(3), 0);
        due.is("told(6)", bare.told(6), 3);
        due.is("no draws without eggs", bare.seed(0), 42);
        String before = Due.allOf(bare);
        for (int far : new int[] {-1, 0, 61, Integer.MIN_VALUE, Integer.MAX_VALUE}) {
            due.is("drift(" + far + ")", bare.drift(far), Due.OUTSIDE);
        }
        due.same("refused drifts", Due.allOf(bare), before);
        EggThrones none = new EggThrones();
        due.is("drift(0) without a table", none.drift(0), Due.OUTSIDE);
        due.is("drift(60) without a table", none.drift(60), Due.NOT);
    }

    private static void undo() {
        EggThrones x = Due.toldOf(Due.USUAL);
        due.is("undo() of nothing", x.undo(), Due.NOT);
        for (int i = 1; i <= 25; i++) {
            x.cutToast(1);
            due.is("told(17)", x.told(17), Math.min(i, 20));
        }
        x.cutToast(0);
        x.put(9);
        x.crown(0);
        due.is("refused calls are not kept", x.told(17), 20);
        for (int i = 19; i >= 0; i--) {
            due.is("undo()", x.undo(), i);
            due.is("soldiers", x.told(1), 25 + i);
        }
        due.is("the oldest are lost", x.undo(), Due.NOT);
        due.is("soldiers stay", x.told(1), 25);
        x.cutToast(2);
        x.wish(0, 4);
        x.see(1, 1);
        x.write(0, 0);
        x.seed(5);
        due.is("undo() passes over what is no deed", x.undo(), 0);
        due.is("the wish stays", x.egg(0, 6), 4);
        due.is("what is seen stays", x.told(15), 1);
        due.is("the book stays", x.told(16), 1);
        due.is("the seed stays", x.seed(0), 5);
    }

    private static EggThrones behindSteps(int steps) {
        EggThrones x = Due.toldOf("p3 9 4;e3 1;e10 2;e0 3;e30 5;");
        x.seed(11);
        for (int step = 0; step < steps; step++) {
            doStep(x, step);
        }
        return x;
    }

    /** What was so ahead of a step is asked of another object, as one is used for 512 calls at most. */
    private static void undoOfEach() {
        EggThrones x = behindSteps(0);
        int[] kept = new int[17];
        int count = 0;
        for (int step = 0; step < kept.length; step++) {
            kept[count] = step;
            if (doStep(x, step) >= 0) {
                count++;
            }
            due.is("kept behind step " + step, x.told(17), count);
        }
        for (int i = count - 1; i >= 0; i--) {
            due.is("undo()", x.undo(), i);
            due.same("undone", Due.morningOf(x), Due.morningOf(behindSteps(kept[i])));
        }
    }

    private static int doStep(EggThrones x, int step) {
        switch (step) {
            case 0: return x.put(0);
            case 1: return x.put(1);
            case 2: return x.minute(3);
            case 3: return x.takeOut(0);
            case 4: return x.crown(0);
            case 5: return x.crown(1);
            case 6: return x.minute(1);
            case 7: return x.drift(2);
            case 8: return x.cutToast(50);
            case 9: return x.minute(7);
            case 10: return x.drift(9);
            case 11: return x.put(2);
            case 12: return x.takeOut(2);
            case 13: return x.crown(2);
            case 14: return x.minute(60);
            default: return x.drift(step);
        }
    }

    private static void wish() {
        EggThrones x = Due.toldOf(Due.USUAL);
        due.is("wish(1, 6)", x.wish(1, 6), 1);
        due.is("wish(1, 1)", x.wish(1, 1), 6);
        due.is("wish(1, 2)", x.wish(1, 2), 1);
        due.is("wish(1, 7)", x.wish(1, 7), Due.OUTSIDE);
        due.is("wish(1, 0)", x.wish(1, 0), Due.OUTSIDE);
        due.is("wish(4, 1)", x.wish(4, 1), Due.UNKNOWN);
        due.is("wish(-1, 1)", x.wish(-1, 1), Due.UNKNOWN);
        for (int far : Due.FAR) {
            due.is("wish(" + far + ", 99)", x.wish(far, 99), Due.UNKNOWN);
            due.is("wish(1, " + far + ")", x.wish(1, far), Due.OUTSIDE);
        }
        due.is("egg(1, 6)", x.egg(1, 6), 2);
        due.is("egg(0, 6)", x.egg(0, 6), 1);
        x.keep(0);
        x.wish(1, 3);
        x.goBack(0);
        due.is("images do not keep wishes", x.egg(1, 6), 3);
        due.is("a wish is not undone", x.undo(), Due.NOT);
    }
}
