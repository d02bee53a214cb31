/** Promises 16 to 21: needs, allBoiled, dynasty, liked, goose, whole. */
public final class TriedTest {
    private static final Due due = new Due();

    public static void main(String[] args) {
        needs();
        allBoiled();
        allBoiledPlaces();
        dynasty();
        dynastyOfLikeOnes();
        liked();
        likedOfLikeOnes();
        goose();
        whole();
        due.end("TriedTest");
    }

    private static void needs() {
        EggThrones x = Due.toldOf("p1 0 30;e30 1;e0 5;e0 1;");
        // egg 0 is 10 times boiled and 5 hard: it reigns 2 more than boiled, 11 at most
        due.is("needs(0, 1)", x.needs(0, 1), 0);
        due.is("needs(0, 2)", x.needs(0, 2), 0);
        due.is("needs(0, 3)", x.needs(0, 3), 1);
        due.is("needs(0, 11)", x.needs(0, 11), 9);
        due.is("needs(0, 12)", x.needs(0, 12), Due.NONE);
        due.is("needs(1, 15)", x.needs(1, 15), 12);
        due.is("needs(1, 99)", x.needs(1, 99), Due.NONE);
        due.is("needs(2, 3)", x.needs(2, 3), 2);
        Due.boil(x, 2, 9);
        due.is("needs(2, 3) of a boiled one", x.needs(2, 3), 2);
        EggThrones brief = Due.toldOf("p1 0 2;e0 1;");
        due.is("needs as long as it may boil", brief.needs(0, 3), 2);
        due.is("needs longer than it may boil", brief.needs(0, 4), Due.NONE);
        due.is("needs(3, 1)", x.needs(3, 1), Due.UNKNOWN);
        due.is("needs(-1, 1)", x.needs(-1, 1), Due.UNKNOWN);
        due.is("needs(0, 0)", x.needs(0, 0), Due.OUTSIDE);
        due.is("needs(0, 100)", x.needs(0, 100), Due.OUTSIDE);
        for (int far : Due.FAR) {
            due.is("needs(" + far + ", 0)", x.needs(far, 0), Due.UNKNOWN);
            due.is("needs(0, " + far + ")", x.needs(0, far), Due.OUTSIDE);
        }
    }

    private static EggThrones wishing(String pan, int... wishes) {
        EggThrones x = Due.toldOf(pan + "e0 1;".repeat(wishes.length));
        for (int e = 0; e < wishes.length; e++) {
            x.wish(e, wishes[e]);
        }
        return x;
    }

    private static void allBoiled() {
        EggThrones x = Due.toldOf(Due.USUAL);
        due.is("the empty set", x.allBoiled(0, -1), 0);
        due.is("the empty set, an egg", x.allBoiled(0, 2), Due.NONE);
        due.is("untold wishes", x.allBoiled(15, -1), 2);
        due.is("three untold wishes", x.allBoiled(7, -1), 2);
        due.is("one untold wish", x.allBoiled(8, -1), 1);
        String before = Due.allOf(x);
        due.is("bits of no egg", x.allBoiled(16, -1), Due.UNKNOWN);
        due.is("bits of no egg besides", x.allBoiled(17, -1), Due.UNKNOWN);
        due.is("the sign's bit", x.allBoiled(Integer.MIN_VALUE, -1), Due.UNKNOWN);
        due.is("all bits", x.allBoiled(-1, -1), Due.UNKNOWN);
        due.is("egg 4", x.allBoiled(1, 4), Due.UNKNOWN);
        due.is("egg -2", x.allBoiled(1, -2), Due.UNKNOWN);
        for (int far : Due.FAR) {
            due.is("allBoiled(1, " + far + ")", x.allBoiled(1, far), Due.UNKNOWN);
            due.is("allBoiled(" + far + ", 0)", x.allBoiled(far, 0), Due.UNKNOWN);
        }
        due.same("tried", Due.allOf(x), before);
        x.put(0);
        x.minute(7);
        due.is("whatever they are now", x.allBoiled(15, -1), 2);
        EggThrones seven = wishing("p3 0 30;", 30, 30, 30, 30, 30, 30, 30);
        due.is("seven of thirty in three", seven.allBoiled(127, -1), 90);
        EggThrones one = wishing("p1 0 30;", 30, 30, 30, 30, 30, 30, 30);
        due.is("seven of thirty in one", one.allBoiled(127, -1), 210);
        due.is("seven of thirty in one, place", one.allBoiled(127, 6), 0);
    }

    private static void allBoiledPlaces() {
        // 5 5 4 4 3 3 3 = 27 in three places: 9 each; 5 4, 5 4, 3 3 3
        EggThrones x = wishing("p3 0 9;", 5, 5, 4, 4, 3, 3, 3);
        due.is("nine each", x.allBoiled(127, -1), 9);
        int[] want = {0, 1, 0, 1, 2, 2, 2};
        for (int e = 0; e < 7; e++) {
            due.is("place of " + e, x.allBoiled(127, e), want[e]);
        }
        // of the like ways the first leaves room where the lesser eggs take it
        EggThrones y = wishing("p3 0 9;", 1, 1, 9, 1);
        int[] first = {0, 0, 1, 0};
        due.is("the longest decides", y.allBoiled(15, -1), 9);
        for (int e = 0; e < 4; e++) {
            due.is("first place of " + e, y.allBoiled(15, e), first[e]);
        }
        due.is("without the longest", y.allBoiled(11, -1), 1);
        due.is("not of the set", y.allBoiled(11, 2), Due.NONE);
        due.is("behind the one left out", y.allBoiled(11, 3), 2);
        // 2 2 2 3 3 in two places: 6 by the twos together and the threes, which greed misses
        EggThrones z = wishing("p2 0 9;", 3, 3, 2, 2, 2);
        due.is("six", z.allBoiled(31, -1), 6);
        due.is("threes together", z.allBoiled(31, 1), 0);
        due.is("twos together", z.allBoiled(31, 4), 1);
    }

    private static void dynasty() {
        EggThrones x = Due.toldOf("p3 20 9;e0 1;e0 2;e0 3;e0 4;e0 5;");
        due.is("none out: how many", x.dynasty(0), 0);
        due.is("none out: minutes", x.dynasty(1), 0);
        due.is("none out: set", x.dynasty(2), 0);
        for (int e = 0; e < 5; e++) {
            x.put(e);
            x.takeOut(e);
        }
        // reigns 2 3 4 5 6, ten minutes of toast: three eggs (2 3 4, 2 3 5), most minutes 2 3 5
        due.is("how many", x.dynasty(0), 3);
        due.is("minutes", x.dynasty(1), 10);
        due.is("set", x.dynasty(2), 11);
        x.cutToast(1);
        due.is("an odd soldier feeds none", x.dynasty(1), 10);
        x.cutToast(1);
        due.is("eleven minutes", x.dynasty(1), 11);
        // 2 4 5 and 2 3 6 are like: 13 is less than 19
        due.is("the least of like sets", x.dynasty(2), 13);
        x.crown(0);
        due.is("without the king", x.dynasty(0), 2);
        due.is("without the king: set", x.dynasty(2), 24);
        String before = Due.allOf(x);
        for (int what : new int[] {-1, 3, Integer.MIN_VALUE, Integer.MAX_VALUE}) {
            due.is("dynasty(" + what + ")", x.dynasty(what), Due.OUTSIDE);
        }
        due.same("tried", Due.allOf(x), before);
    }

    private static void dynastyOfLikeOnes() {
        EggThrones x = Due.toldOf("p3 8 9;e0 3;e0 1;e0 3;e0 1;");
        for (int e = 0; e < 4; e++) {
            x.put(e);
            x.takeOut(e);
        }
        // reigns 4 2 4 2: two eggs in four minutes are 1 and 3; with six minutes 0 and 1 are the least
        due.is("two small ones", x.dynasty(2), 10);
        x.cutToast(4);
        due.is("a great and a small one", x.dynasty(1), 6);
        due.is("the least set", x.dynasty(2), 3);
        EggThrones few = Due.toldOf("p1 3 9;e0 1;");
        few.put(0);
        few.takeOut(0);
        due.is("too few soldiers", few.dynasty(0), 0);
        few.cutToast(1);
        due.is("just enough soldiers", few.dynasty(2), 1);
        few.crown(0);
        due.is("none left: how many", few.dynasty(0), 0);
        due.is("none left: minutes", few.dynasty(1), 0);
        due.is("none left: set", few.dynasty(2), 0);
    }

    private static void liked() {
        EggThrones x = Due.toldOf(Due.USUAL);
        due.is("none out", x.liked(-1), 0);
        due.is("none out: eater 0", x.liked(0), Due.NONE);
        x.put(0);
        x.put(3);
        x.minute(4);
        due.is("none in the pan", x.liked(-1), 0);
        x.takeOut(0);
        x.takeOut(3);
        // hard 36 and 25: eater 1 likes both, eater 2 the first, eater 0 neither
        due.is("two", x.liked(-1), 2);
        due.is("eater 0", x.liked(0), Due.NONE);
        due.is("eater 1 leaves the lesser one", x.liked(1), 3);
        due.is("eater 2", x.liked(2), 0);
        x.crown(0);
        due.is("not the king", x.liked(-1), 1);
        due.is("eater 1 then", x.liked(1), 3);
        due.is("eater 2 then", x.liked(2), Due.NONE);
        due.is("liked(3)", x.liked(3), Due.UNKNOWN);
        due.is("liked(-2)", x.liked(-2), Due.UNKNOWN);
        for (int far : Due.FAR) {
            due.is("liked(" + far + ")", x.liked(far), Due.UNKNOWN);
        }
        // as hard as the bounds: 10 less 5 is 5
        EggThrones edge = Due.toldOf("p1 0 9;e0 1;m6 9;m0 4;m5 5;");
        Due.boil(edge, 0, 1);
        due.is("on both bounds", edge.liked(2), 0);
        due.is("below", edge.liked(0), Due.NONE);
        due.is("above", edge.liked(1), Due.NONE);
    }

    private static void likedOfLikeOnes() {
        EggThrones x = Due.toldOf("p3 0 9;e0 1;e0 1;e0 1;m0 0;m0 99;m0 0;m0 50;m0 99;");
        for (int e = 0; e < 3; e++) {
            x.put(e);
        }
        x.takeOut(1);
        x.minute(1);
        x.takeOut(0);
        x.takeOut(2);
        // hard 5 0 5: eater 0 has the only soft one, then the lesser eater the lesser egg
        due.is("three", x.liked(-1), 3);
        int[] want = {1, 0, Due.NONE, 2, Due.NONE};
        for (int m = 0; m < 5; m++) {
            due.is("of eater " + m, x.liked(m), want[m]);
        }
        EggThrones y = Due.toldOf("p3 0 9;e0 1;m0 9;m0 9;");
        y.put(0);
        y.takeOut(0);
        due.is("one", y.liked(-1), 1);
        due.is("the lesser eater has it", y.liked(0), 0);
        due.is("nobody's last", y.liked(1), Due.NONE);
        EggThrones z = Due.toldOf("p1 0 9;e0 1;m0 9;");
        z.put(0);
        z.takeOut(0);
        due.is("one egg to one eater", z.liked(-1), 1);
        // five eaters in a chain: each must take the next, since the last likes only the hardest
        EggThrones chain = Due.toldOf("p1 0 30;" + "e0 1;".repeat(5) + "m5 15;m15 25;m25 35;m35 45;m45 45;");
        for (int e = 0; e < 5; e++) {
            Due.boil(chain, e, e + 1);
        }
        due.is("all five", chain.liked(-1), 5);
        for (int m = 0; m < 5; m++) {
            due.is("chain: of eater " + m, chain.liked(m), m);
        }
        chain.crown(0);
        due.is("four of five", chain.liked(-1), 4);
        int[] first = {1, 2, 3, 4, Due.NONE};
        for (int m = 0; m < 5; m++) {
            due.is("shorter chain: of eater " + m, chain.liked(m), first[m]);
        }
    }

    private static void goose() {
        EggThrones x = Due.toldOf(Due.USUAL);
        for (int m = 0; m < 3; m++) {
            due.is("goose(999, " + m + ")", x.goose(999, m), 333);
            due.is("goose(998, " + m + ")", x.goose(998, m), m < 2 ? 333 : 332);
            due.is("goose(11, " + m + ")", x.goose(11, m), m < 2 ? 4 : 3);
            due.is("goose(1, " + m + ")", x.goose(1, m), m == 0 ? 1 : 0);
            due.is("goose(0, " + m + ")", x.goose(0, m), 0);
        }
        due.is("goose(1, 3)", x.goose(1, 3), Due.UNKNOWN);
        due.is("goose(1, -1)", x.goose(1, -1), Due.UNKNOWN);
        due.is("goose(1000, 3)", x.goose(1000, 3), Due.UNKNOWN);
        due.is("goose(1000, 0)", x.goose(1000, 0), Due.OUTSIDE);
        due.is("goose(-1, 0)", x.goose(-1, 0), Due.OUTSIDE);
        for (int far : Due.FAR) {
            due.is("goose(1, " + far + ")", x.goose(1, far), Due.UNKNOWN);
            due.is("goose(" + far + ", 0)", x.goose(far, 0), Due.OUTSIDE);
        }
        due.is("one eater", Due.toldOf("p1 0 1;m0 1;").goose(5, 0), 5);
        due.is("no eaters", Due.toldOf("p1 0 1;e0 1;").goose(5, 0), Due.UNKNOWN);
    }

    private static void whole() {
        EggThrones x = new EggThrones();
        due.is("whole(0, 0)", x.whole(0, 0), 1000000000);
        due.is("whole(0, 100)", x.whole(0, 100), 1000000000);
        due.is("whole(60, 0)", x.whole(60, 0), 1000000000);
        due.is("whole(1, 100)", x.whole(1, 100), 0);
        due.is("whole(1, 37)", x.whole(1, 37), 630000000);
        due.is("whole(5, 1)", x.whole(5, 1), 950990049);
        due.is("whole(9, 90)", x.whole(9, 90), 1);
        due.is("whole(10, 90)", x.whole(10, 90), 0);
        due.is("whole(20, 50)", x.whole(20, 50), 953);
        // each one is cut, not the last alone
        long odds = 1000000000L;
        for (int n = 1; n <= 60; n++) {
            odds = (odds * 67 - odds * 67 % 100) / 100;
            due.is("whole(" + n + ", 33)", x.whole(n, 33), odds);
        }
        due.is("whole(61, 0)", x.whole(61, 0), Due.OUTSIDE);
        due.is("whole(-1, 0)", x.whole(-1, 0), Due.OUTSIDE);
        due.is("whole(0, 101)", x.whole(0, 101), Due.OUTSIDE);
        due.is("whole(0, -1)", x.whole(0, -1), Due.OUTSIDE);
        for (int far : Due.FAR) {
            due.is("whole(" + far + ", 1)", x.whole(far, 1), Due.OUTSIDE);
            due.is("whole(1, " + far + ")", x.whole(1, far), Due.OUTSIDE);
        }
    }
}
