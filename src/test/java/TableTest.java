/** Promises 1 to 7: a new object, feed, table, fault, told, egg, eater. */
public final class TableTest {
    private static final Due due = new Due();

    public static void main(String[] args) {
        newObject();
        feed();
        faults();
        blanksAndBounds();
        tableStartsAnew();
        faultChangesNothing();
        textWithoutClausesTakesTheTableAway("");
        textWithoutClausesTakesTheTableAway(" ");
        textWithoutClausesTakesTheTableAway(" ".repeat(240));
        blanksAloneTellNoTable();
        told();
        egg();
        eater();
        due.end("TableTest");
    }

    private static void newObject() {
        EggThrones x = new EggThrones();
        for (int what = 0; what <= 17; what++) {
            due.is("new: told(" + what + ")", x.told(what), what == 7 || what == 14 ? -1 : 0);
        }
        due.is("new: fault()", x.fault(), Due.NONE);
        due.is("new: egg(0, 0)", x.egg(0, 0), Due.UNKNOWN);
        due.is("new: eater(0, 0)", x.eater(0, 0), Due.UNKNOWN);
        due.is("new: minute(1)", x.minute(1), Due.NOT);
        due.is("new: minute(0)", x.minute(0), Due.OUTSIDE);
        due.is("new: put(0)", x.put(0), Due.UNKNOWN);
        due.is("new: takeOut(0)", x.takeOut(0), Due.UNKNOWN);
        due.is("new: crown(0)", x.crown(0), Due.UNKNOWN);
        due.is("new: cutToast(1)", x.cutToast(1), Due.NOT);
        due.is("new: drift(1)", x.drift(1), Due.NOT);
        due.is("new: undo()", x.undo(), Due.NOT);
        due.is("new: wish(0, 1)", x.wish(0, 1), Due.UNKNOWN);
        due.is("new: needs(0, 1)", x.needs(0, 1), Due.UNKNOWN);
        due.is("new: allBoiled(0, -1)", x.allBoiled(0, -1), Due.NOT);
        due.is("new: allBoiled(1, -1)", x.allBoiled(1, -1), Due.UNKNOWN);
        due.is("new: allBoiled(0, 0)", x.allBoiled(0, 0), Due.UNKNOWN);
        due.is("new: dynasty(2)", x.dynasty(2), 0);
        due.is("new: liked(-1)", x.liked(-1), 0);
        due.is("new: liked(0)", x.liked(0), Due.UNKNOWN);
        due.is("new: goose(1, 0)", x.goose(1, 0), Due.UNKNOWN);
        due.is("new: ages()", x.ages(), Integer.MAX_VALUE);
        due.is("new: write(0, 0)", x.write(0, 0), Due.UNKNOWN);
        due.is("new: judge()", x.judge(), Due.NONE);
        due.is("new: tear()", x.tear(), 0);
        due.is("new: seed(7)", x.seed(7), 0);
        due.is("new: goBack(0)", x.goBack(0), Due.NOT);
    }

    private static void feed() {
        EggThrones x = new EggThrones();
        due.is("feed(-1)", x.feed(-1), Due.OUTSIDE);
        due.is("feed(256)", x.feed(256), Due.OUTSIDE);
        for (int far : Due.FAR) {
            due.is("feed(" + far + ")", x.feed(far), Due.OUTSIDE);
        }
        due.is("told(5) behind refused letters", x.told(5), 0);
        due.is("feed(0)", x.feed(0), 1);
        due.is("feed(255)", x.feed(255), 2);
        for (int i = 3; i <= 240; i++) {
            due.is("feed(32)", x.feed(32), i);
        }
        due.is("the 241st letter", x.feed(32), Due.FULL);
        due.is("the 241st letter, and outside", x.feed(256), Due.OUTSIDE);
        due.is("told(5) when full", x.told(5), 240);
        due.is("table()", x.table(), -11);
        due.is("fault()", x.fault(), 0);
        due.is("told(5) behind table()", x.told(5), 0);
        due.is("feed anew", x.feed('p'), 1);
    }

    private static void fault(String text, int number, int place) {
        EggThrones x = new EggThrones();
        due.is("table of '" + text + "'", Due.tell(x, text), -10 - number);
        due.is("fault of '" + text + "'", x.fault(), place);
        due.is("told(5) behind '" + text + "'", x.told(5), 0);
        due.is("told(0) behind '" + text + "'", x.told(0), 0);
    }

    private static void faults() {
        fault("e0 1;", 1, 0);
        fault("m0 1;", 1, 0);
        fault("  e", 1, 2);
        fault("x", 1, 0);
        fault(";", 1, 0);
        fault("1", 1, 0);
        fault("P1 0 1;", 1, 0);
        fault("\t", 1, 0);
        fault("   x", 1, 3);
        fault("   \0", 1, 3);
        fault("p", 1, 1);
        fault("p ", 1, 2);
        fault("p1", 1, 2);
        fault("p1 ", 1, 3);
        fault("p1 0 1", 1, 6);
        fault("p1 0 1  ", 1, 8);
        fault("p1 0;", 1, 4);
        fault("p;", 1, 1);
        fault("p1 0 1 1;", 1, 7);
        fault("p1 0 1 5555;", 1, 7);
        fault("p1,0 1;", 1, 2);
        fault("pp", 1, 1);
        fault("p1 p", 1, 3);
        fault("p1 0 1;;", 1, 7);
        fault("p1 0 1;7", 1, 7);
        fault("p1 0 1;x", 1, 7);
        fault("p1 0 1; e 0", 1, 11);
        fault("p1 0 1;e0 1 m", 1, 12);
        fault("p1 0 1;e-1 1;", 1, 8);
        fault("p0 0 1;", 2, 1);
        fault("p4 0 1;", 2, 1);
        fault("p 4x", 2, 2);
        fault("p1 100 1;", 2, 3);
        fault("p1 0 0;", 2, 5);
        fault("p1 0 31;", 2, 5);
        fault("p0001 0 1;", 2, 1);
        fault("p1 0000 1;", 2, 3);
        fault("p1 0 00000000000000000001;", 2, 5);
        fault("p1 4294967297 1;", 2, 3);
        fault("p101;", 2, 1);
        fault("p1 0 1;e31 1;", 2, 8);
        fault("p1 0 1;e0 0;", 2, 10);
        fault("p1 0 1;e0 6;", 2, 10);
        fault("p1 0 1;m100 100;", 2, 8);
        fault("p1 0 1;m0 100;", 2, 10);
        fault("p1 0 1;m5 4;", 2, 10);
        fault("p1 0 1;m 99   98;", 2, 14);
        fault("p1 0 1;p", 3, 7);
        fault("p1 0 1;e0 1; p1 0 1;", 3, 13);
        fault("p1 0 1;" + "e0 1;".repeat(7) + "e", 3, 42);
        fault("p1 0 1;" + "m0 1;".repeat(5) + "m", 3, 32);
    }

    private static void blanksAndBounds() {
        EggThrones x = new EggThrones();
        due.is("blanks", Due.tell(x, "  p 1   0 1 ;e0 1 ; e  0 1;  "), 2);
        due.is("fault() of none", x.fault(), Due.NONE);
        due.is("pan alone", Due.tell(x, "p1 0 1;"), 0);
        due.is("told(0) of the pan alone", x.told(0), 1);
        due.is("greatest numbers", Due.tell(x, "p3 99 30;e30 5;m99 99;"), 1);
        due.is("three figures", Due.tell(x, "p003 009 010;e000 001;m000 000;"), 1);
        due.is("told(0) of three figures", x.told(0), 3);
        due.is("told(1) of three figures", x.told(1), 9);
        due.is("told(2) of three figures", x.told(2), 10);
        due.is("seven eggs, five eaters", Due.tell(x, "p1 0 1;" + "m0 1;".repeat(5) + "e0 1;".repeat(7)), 7);
        due.is("told(4)", x.told(4), 5);
        due.is("mixed clauses", Due.tell(x, "p1 0 1;m1 2;e3 4;m5 6;e7 5;"), 2);
        due.is("mixed egg(1, 0)", x.egg(1, 0), 7);
        due.is("mixed eater(1, 0)", x.eater(1, 0), 5);
        String longest = "p1 0 1;" + " ".repeat(233);
        due.is("240 letters", Due.tell(x, longest), 0);
    }

    private static void tableStartsAnew() {
        EggThrones x = Due.toldOf(Due.USUAL);
        x.seed(77);
        x.wish(0, 5);
        x.see(1, 1);
        x.write(0, 0);
        Due.boil(x, 1, 1);
        x.crown(1);
        x.minute(3);
        due.is("one scraped", x.told(10), 1);
        Due.boil(x, 0, 3);
        x.crown(0);
        x.minute(1);
        x.keep(1);
        x.cutToast(9);
        due.is("table() anew", Due.tell(x, "p1 7 5;e4 2;e5 3;"), 2);
        int[] want = {1, 7, 5, 2, 0, 0, 0, -1, 0, 0, 0, 0, 0, 0, -1, 0, 0, 0};
        for (int what = 0; what < want.length; what++) {
            due.is("anew: told(" + what + ")", x.told(what), want[what]);
        }
        due.is("anew: egg(0, 0)", x.egg(0, 0), 4);
        due.is("anew: egg(0, 2)", x.egg(0, 2), 0);
        due.is("anew: egg(0, 3)", x.egg(0, 3), 0);
        due.is("anew: egg(0, 6)", x.egg(0, 6), 1);
        due.is("anew: goBack(1)", x.goBack(1), Due.NOT);
        due.is("anew: undo()", x.undo(), Due.NOT);
        due.is("anew: egg(2, 0)", x.egg(2, 0), Due.UNKNOWN);
        due.is("anew: the seed stays", x.seed(1), 77);
    }

    private static void faultChangesNothing() {
        EggThrones x = Due.toldOf(Due.USUAL);
        x.seed(77);
        x.wish(0, 5);
        x.see(1, 1);
        x.write(0, 0);
        Due.boil(x, 0, 3);
        x.keep(1);
        x.crown(0);
        x.minute(1);
        String before = Due.morningOf(x);
        due.is("table() with a fault", Due.tell(x, "p3 1 1;e0 1;e0 9;"), -12);
        due.is("its fault()", x.fault(), 15);
        due.same("the morning behind a fault", Due.morningOf(x), before);
        due.is("fault: told(0)", x.told(0), 2);
        due.is("fault: told(3)", x.told(3), 4);
        due.is("fault: told(4)", x.told(4), 3);
        due.is("fault: told(15)", x.told(15), 1);
        due.is("fault: told(16)", x.told(16), 1);
        due.is("fault: told(17)", x.told(17), 2);
        due.is("fault: egg(0, 6)", x.egg(0, 6), 5);
        due.is("fault: goBack(1)", x.goBack(1), 1);
        due.is("fault: seed(1)", x.seed(1), 77);
        due.is("table() of nothing", x.table(), 0);
        due.is("fault() of nothing", x.fault(), Due.NONE);
    }

    private static void textWithoutClausesTakesTheTableAway(String text) {
        String name = text.length() + " blanks: ";
        EggThrones x = Due.toldOf(Due.USUAL);
        x.seed(77);
        x.see(1, 1);
        x.write(0, 0);
        x.keep(0);
        Due.boil(x, 0, 3);
        x.crown(0);
        x.minute(1);
        Due.tell(x, "x");
        due.is(name + "table()", Due.tell(x, text), 0);
        due.is(name + "fault() behind a fault", x.fault(), Due.NONE);
        for (int what = 0; what <= 17; what++) {
            due.is(name + "told(" + what + ")", x.told(what), what == 7 || what == 14 ? -1 : 0);
        }
        due.is(name + "minute(1)", x.minute(1), Due.NOT);
        due.is(name + "undo()", x.undo(), Due.NOT);
        due.is(name + "egg(0, 0)", x.egg(0, 0), Due.UNKNOWN);
        due.is(name + "eater(0, 0)", x.eater(0, 0), Due.UNKNOWN);
        due.is(name + "goBack(0)", x.goBack(0), Due.NOT);
        due.is(name + "ages()", x.ages(), Integer.MAX_VALUE);
        due.is(name + "judge()", x.judge(), Due.NONE);
        due.is(name + "the seed stays", x.seed(1), 77);
        due.is(name + "a table behind it", Due.tell(x, "p1 0 1;e0 1;"), 1);
    }

    private static void blanksAloneTellNoTable() {
        for (int many = 1; many <= 240; many++) {
            EggThrones x = new EggThrones();
            due.is("table of " + many + " blanks", Due.tell(x, " ".repeat(many)), 0);
            due.is("fault of " + many + " blanks", x.fault(), Due.NONE);
            due.is("told(0) of " + many + " blanks", x.told(0), 0);
            due.is("cutToast(1) of " + many + " blanks", x.cutToast(1), Due.NOT);
        }
    }

    private static void told() {
        EggThrones one = Due.toldOf("p1 9 9;e0 1;");
        one.put(0);
        one.takeOut(0);
        due.is("told(13) of egg 0", one.told(13), 1);
        due.is("told(14) of egg 0", one.told(14), 0);
        EggThrones x = Due.toldOf(Due.USUAL);
        for (int far : Due.FAR) {
            due.is("told(" + far + ")", x.told(far), Due.OUTSIDE);
        }
        due.is("told(-1)", x.told(-1), Due.OUTSIDE);
        due.is("told(18)", x.told(18), Due.OUTSIDE);
        x.feed('p');
        due.is("told(5)", x.told(5), 1);
        x.put(2);
        x.put(3);
        x.minute(1);
        due.is("told(11)", x.told(11), 12);
        x.takeOut(2);
        x.takeOut(3);
        // hard: 10 - 15 + 0 and 10 - 25 + 10, both none at all; reigns 4 and 6
        due.is("told(12)", x.told(12), 12);
        due.is("told(13)", x.told(13), 12);
        due.is("told(14)", x.told(14), 3);
        Due.boil(x, 2, 3);
        // hard 25, reign 1 + 2 + 3: as long as egg 3, and lesser
        due.is("told(13) without the boiled one", x.told(13), 8);
        due.is("told(14) of like ones", x.told(14), 2);
        due.is("crown", x.crown(2), 6);
        due.is("told(7)", x.told(7), 2);
        due.is("told(8)", x.told(8), 6);
        x.minute(2);
        due.is("told(8) two later", x.told(8), 4);
        due.is("told(9)", x.told(9), 2);
        due.is("told(10)", x.told(10), 0);
        due.is("told(1)", x.told(1), 16);
        due.is("told(6)", x.told(6), 6);
        due.is("told(14) of those out", x.told(14), 3);
        due.is("told(17)", x.told(17), 10);
        x.see(1, 2);
        x.see(2, 2);
        x.write(1, 1);
        due.is("told(15)", x.told(15), 2);
        due.is("told(16)", x.told(16), 1);
        x.minute(4);
        due.is("told(10) when scraped", x.told(10), 1);
        due.is("told(7) when scraped", x.told(7), Due.NONE);
        due.is("told(8) when scraped", x.told(8), 0);
    }

    private static void egg() {
        EggThrones x = Due.toldOf(Due.USUAL);
        int[][] told = {{3, 1}, {10, 2}, {0, 3}, {30, 5}};
        for (int e = 0; e < 4; e++) {
            due.is("egg(" + e + ", 0)", x.egg(e, 0), told[e][0]);
            due.is("egg(" + e + ", 1)", x.egg(e, 1), told[e][1]);
            due.is("egg(" + e + ", 2)", x.egg(e, 2), 0);
            due.is("egg(" + e + ", 3)", x.egg(e, 3), 0);
            due.is("egg(" + e + ", 4)", x.egg(e, 4), 0);
            due.is("egg(" + e + ", 5)", x.egg(e, 5), 1 + told[e][1]);
            due.is("egg(" + e + ", 6)", x.egg(e, 6), 1);
        }
        x.put(1);
        x.minute(4);
        due.is("egg(1, 2) in the pan", x.egg(1, 2), 1);
        due.is("egg(1, 3) in the pan", x.egg(1, 3), 4);
        due.is("egg(1, 4) in the pan", x.egg(1, 4), 33);
        due.is("egg(1, 5) in the pan", x.egg(1, 5), 6);
        x.takeOut(1);
        due.is("egg(1, 2) out", x.egg(1, 2), 2);
        x.crown(1);
        due.is("egg(1, 2) king", x.egg(1, 2), 3);
        due.is("egg(1, 5) as king", x.egg(1, 5), 6);
        x.minute(6);
        due.is("egg(1, 2) scraped", x.egg(1, 2), 4);
        due.is("egg(4, 0)", x.egg(4, 0), Due.UNKNOWN);
        due.is("egg(-1, 0)", x.egg(-1, 0), Due.UNKNOWN);
        due.is("egg(0, -1)", x.egg(0, -1), Due.OUTSIDE);
        due.is("egg(0, 7)", x.egg(0, 7), Due.OUTSIDE);
        for (int far : Due.FAR) {
            due.is("egg(" + far + ", 9)", x.egg(far, 9), Due.UNKNOWN);
            due.is("egg(0, " + far + ")", x.egg(0, far), Due.OUTSIDE);
        }
        EggThrones hard = Due.toldOf("p1 99 30;e29 1;");
        Due.boil(hard, 0, 9);
        due.is("hard 94", hard.egg(0, 4), 94);
        Due.boil(hard, 0, 1);
        due.is("hard 99 at most", hard.egg(0, 4), 99);
        due.is("longest reign of size 1", hard.egg(0, 5), 11);
    }

    private static void eater() {
        EggThrones x = Due.toldOf(Due.USUAL);
        int[][] told = {{0, 20}, {15, 60}, {30, 99}};
        for (int m = 0; m < 3; m++) {
            due.is("eater(" + m + ", 0)", x.eater(m, 0), told[m][0]);
            due.is("eater(" + m + ", 1)", x.eater(m, 1), told[m][1]);
        }
        due.is("eater(3, 0)", x.eater(3, 0), Due.UNKNOWN);
        due.is("eater(-1, 0)", x.eater(-1, 0), Due.UNKNOWN);
        due.is("eater(-1, 5)", x.eater(-1, 5), Due.UNKNOWN);
        due.is("eater(0, 2)", x.eater(0, 2), Due.OUTSIDE);
        due.is("eater(0, -1)", x.eater(0, -1), Due.OUTSIDE);
        for (int far : Due.FAR) {
            due.is("eater(" + far + ", 0)", x.eater(far, 0), Due.UNKNOWN);
            due.is("eater(0, " + far + ")", x.eater(0, far), Due.OUTSIDE);
        }
    }
}
