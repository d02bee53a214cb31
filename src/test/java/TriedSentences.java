import java.math.BigInteger;
import java.util.function.ToIntFunction;

/** What is TRIED in section 3, and promises 16 to 21. */
final class TriedSentences {
    private TriedSentences() {
    }

    static void all(Sentences s) {
        s.in("Terms");
        s.holds("TRIED from now; nothing changes by it.", TriedSentences::nothingChanges);
        s.holds("NEEDS: the least BOILED (0 .. B) by which an EGG would REIGN so many MINUTES or more; NONE.", TriedSentences::needs);
        s.holds("HEIR: of EGGS OUT the one that would REIGN longest;", TriedSentences::heir);
        s.holds("of like ones the least; NONE. PRETENDERS:", TriedSentences::heirOfLikeOnes);
        s.holds("EGGS (a SET) OUT that are not HARD at all (0).", TriedSentences::pretenders);
        s.holds("ALL BOILED: EGGS of a SET, each for as many MINUTES as it WISHES (told one by one, 1 .. B; 1 untold),",
                TriedSentences::boiledAsWished);
        s.holds("whatever they are now,", TriedSentences::whateverTheyAre);
        s.holds("in the R places of the PAN, one behind the other in each: the fewest MINUTES till all are;",
                TriedSentences::fewestMinutes);
        s.holds("the place (0 .. R less 1) of an EGG,", TriedSentences::placesInBounds);
        s.holds("of like ways the first (EGG by EGG the lesser place);", TriedSentences::firstWay);
        s.holds("NONE: it is not of the SET.", TriedSentences::notOfTheSet);
        s.holds("DYNASTY: EGGS (a SET) that are OUT, to be CROWNED one behind the other,", TriedSentences::dynastyOfThoseOut);
        s.holds("with 2 SOLDIERS for each MINUTE of all their REIGNS together, no more than there are now:",
                TriedSentences::dynastyBySoldiers);
        s.holds("most EGGS; of like ones those of most MINUTES;", TriedSentences::dynastyOfMost);
        s.holds("of like ones the least SET: how many; MINUTES; the SET.", TriedSentences::dynastyOfLeastSet);
        s.holds("LIKED: EGGS that are OUT to EATERS who like them, one each: most;", TriedSentences::likedByMost);
        s.holds("of like ones the first (EATER by EATER the lesser EGG, nobody's last): how many; the EGG of an EATER; NONE.",
                TriedSentences::likedByTheFirst);
        s.holds("GOOSE: n spoons (0 .. 999) to all EATERS alike, what is left over one each to the lesser ones: what an EATER gets.",
                TriedSentences::goose);
        s.holds("WHOLE: odds that none of n (0 .. 60) cracks, each by q of a hundred:", TriedSentences::wholeInBounds);
        s.holds("a BILLION times (100 less q) / 100 each (cut).", TriedSentences::wholeIsCutEachTime);
    }

    static void promises(Sentences s) {
        s.in("Promise 16: needs");
        s.holds("NEEDS (1 .. 99 MINUTES); NONE.", TriedSentences::needsInBounds);
        s.holds("UNKNOWN,", due -> due.bounds("needs(n, 1)", (x, n) -> x.needs(n, 1), 0, 3, Due.UNKNOWN));
        s.holds(" OUTSIDE.", due -> due.bounds("needs(3, n)", (x, n) -> x.needs(3, n), 1, 99, Due.OUTSIDE));
        s.in("Promise 17: allBoiled");
        s.holds("ALL BOILED:", AllWays::boiled);
        s.holds("e = NONE how many MINUTES (the empty SET: 0), else the place; NONE.", TriedSentences::allBoiledOfTheEmptySet);
        s.holds("UNKNOWN,", TriedSentences::allBoiledUnknown);
        s.holds("NOT: no TABLE.", TriedSentences::allBoiledWithoutTable);
        s.in("Promise 18: dynasty");
        s.holds("DYNASTY:", AllWays::dynasty);
        s.holds("what = 0 how many, 1 MINUTES, 2 the SET.", TriedSentences::dynastyOfNone);
        s.holds("OUTSIDE.", due -> due.bounds("dynasty(n)", (x, n) -> x.dynasty(n), 0, 2, Due.OUTSIDE));
        s.in("Promise 19: liked");
        s.holds("LIKED:", AllWays::liked);
        s.holds("m = NONE how many, else an EGG; NONE.", TriedSentences::likedOfNone);
        s.holds("UNKNOWN.", TriedSentences::likedUnknown);
        s.in("Promise 20: goose");
        s.holds("GOOSE.", AllWays::goose);
        s.holds("UNKNOWN,", TriedSentences::gooseUnknown);
        s.holds(" OUTSIDE.", due -> due.bounds("goose(n, 2)", (x, n) -> x.goose(n, 2), 0, 999, Due.OUTSIDE));
        s.in("Promise 21: whole");
        s.holds("WHOLE (q 0 .. 100).", TriedSentences::wholeOfLeastAndMost);
        s.holds("OUTSIDE.", TriedSentences::wholeOutside);
    }

    private static int reignOf(int boiled, int size, int age) {
        return 1 + Math.min(99, Math.max(0, 10 * boiled - 5 * size + age / 3)) / 10 + size;
    }

    /** Eggs of size 1, which are 10 times boiled less 5 hard; all of them wait. */
    private static EggThrones waiting(String pan, String eaters, int... boiled) {
        EggThrones x = Due.toldOf(pan + "e0 1;".repeat(boiled.length) + eaters);
        for (int e = 0; e < boiled.length; e++) {
            x.put(e);
            if (boiled[e] > 0) {
                x.minute(boiled[e]);
            }
            x.takeOut(e);
        }
        return x;
    }

    /** Eggs that are not hard at all, of these sizes: each reigns one more; all of them wait. */
    private static EggThrones sized(int soldiers, int... sizes) {
        StringBuilder text = new StringBuilder("p1 " + soldiers + " 9;");
        for (int size : sizes) {
            text.append('e').append("0 ").append(size).append(';');
        }
        EggThrones x = Due.toldOf(text.toString());
        for (int e = 0; e < sizes.length; e++) {
            x.put(e);
            x.takeOut(e);
        }
        return x;
    }

    private static EggThrones wishing(int places, int... wishes) {
        EggThrones x = Due.toldOf("p" + places + " 0 30;" + "e0 1;".repeat(wishes.length));
        for (int e = 0; e < wishes.length; e++) {
            x.wish(e, wishes[e]);
        }
        return x;
    }

    private static void untouched(Due due, String call, ToIntFunction<EggThrones> tried) {
        EggThrones x = States.busy();
        due.is(call + " is answered", tried.applyAsInt(x) >= -1 ? 1 : 0, 1);
        due.same(call + " changes nothing", Due.drained(x), Due.drained(States.busy()));
    }

    private static void nothingChanges(Due due) {
        for (int n = 1; n <= 20; n++) {
            int minutes = n;
            untouched(due, "needs(0, " + n + ")", x -> x.needs(0, minutes));
        }
        for (int set = 0; set <= 15; set++) {
            int eggs = set;
            untouched(due, "allBoiled(" + set + ", -1)", x -> x.allBoiled(eggs, -1));
            untouched(due, "allBoiled(" + set + ", 2)", x -> x.allBoiled(eggs, 2));
        }
        for (int what = 0; what <= 2; what++) {
            int asked = what;
            untouched(due, "dynasty(" + what + ")", x -> x.dynasty(asked));
        }
        for (int m = -1; m <= 2; m++) {
            int eater = m;
            untouched(due, "liked(" + m + ")", x -> x.liked(eater));
        }
        untouched(due, "told(13)", x -> x.told(13));
        untouched(due, "told(14)", x -> x.told(14));
        untouched(due, "goose(10, 1)", x -> x.goose(10, 1));
        untouched(due, "whole(10, 1)", x -> x.whole(10, 1));
        untouched(due, "ages()", EggThrones::ages);
        untouched(due, "testNext()", EggThrones::testNext);
        untouched(due, "judge()", EggThrones::judge);
    }

    private static void needs(Due due) {
        for (int most : new int[] {1, 2, 8, 9, 10, 11, 12, 30}) {
            for (int size : new int[] {1, 3, 5}) {
                for (int age : new int[] {0, 15, 30}) {
                    EggThrones x = Due.toldOf("p1 0 " + most + ";e" + age + " " + size + ";");
                    for (int minutes = 1; minutes <= 16; minutes++) {
                        int want = Due.NONE;
                        for (int boiled = most; boiled >= 0; boiled--) {
                            want = reignOf(boiled, size, age) >= minutes ? boiled : want;
                        }
                        due.is("B " + most + ", SIZE " + size + ", A " + age + ": needs " + minutes, x.needs(0, minutes), want);
                    }
                }
            }
        }
        EggThrones x = Due.toldOf("p1 0 10;e0 1;");
        due.is("0 is enough", x.needs(0, 2), 0);
        due.is("just B", x.needs(0, 11), 10);
        due.is("more than B can give", Due.toldOf("p1 0 9;e0 1;").needs(0, 11), Due.NONE);
        due.is("more than any BOILED can give", Due.toldOf("p1 0 30;e30 5;").needs(0, 16), Due.NONE);
    }

    private static void heir(Due due) {
        // boiled 0 2 4 1: hard 0 15 35 5, reigns 2 3 5 2
        EggThrones x = waiting("p1 99 9;", "", 0, 2, 4, 1);
        due.is("the longest", x.told(14), 2);
        x.crown(2);
        due.is("not the KING", x.told(14), 1);
        x.put(1);
        due.is("not one in the PAN", x.told(14), 0);
        x.minute(60);
        due.is("neither SCRAPED nor CRACKED", x.told(14), 0);
    }

    private static void heirOfLikeOnes(Due due) {
        EggThrones none = Due.toldOf("p1 99 9;" + "e0 1;".repeat(7));
        due.is("none is OUT", none.told(14), Due.NONE);
        due.is("no EGGS at all", Due.toldOf("p1 0 1;").told(14), Due.NONE);
        EggThrones x = Due.toldOf("p1 99 9;" + "e0 1;".repeat(7));
        for (int e = 6; e >= 0; e--) {
            x.put(e);
            x.takeOut(e);
            due.is("the least from " + e + " on", x.told(14), e);
        }
        // hard 15 and 19 REIGN alike, for all that one is harder
        EggThrones y = Due.toldOf("p2 99 9;e0 1;e14 1;");
        y.put(0);
        y.put(1);
        y.minute(2);
        y.takeOut(0);
        y.takeOut(1);
        due.is("HARD 15", y.egg(0, 4), 15);
        due.is("HARD 19", y.egg(1, 4), 19);
        due.is("alike by REIGN, not by HARD", y.told(14), 0);
    }

    private static void pretenders(Due due) {
        // A / 3 is 4, 5, 6 and 5 times SIZE is 5: below 0, just 0, just 1
        EggThrones x = Due.toldOf("p1 99 9;e12 1;e15 1;e18 1;e0 5;");
        due.is("none is OUT", x.told(13), 0);
        for (int e = 0; e < 4; e++) {
            x.put(e);
            x.takeOut(e);
        }
        due.is("not HARD at all", x.told(13), 1 + 2 + 8);
        x.crown(0);
        due.is("not the KING", x.told(13), 2 + 8);
        x.put(1);
        due.is("not one in the PAN", x.told(13), 8);
        x.takeOut(1);
        Due.boil(x, 3, 2);
        due.is("5 times 5 less 20", x.told(13), 2 + 8);
        Due.boil(x, 3, 1);
        due.is("HARD 5", x.told(13), 2);
    }

    private static void boiledAsWished(Due due) {
        for (int most : new int[] {1, 2, 30}) {
            EggThrones x = Due.toldOf("p1 0 " + most + ";e0 1;e0 1;e0 1;");
            due.is("untold", x.allBoiled(7, -1), 3);
            x.wish(1, most);
            due.is("one told", x.allBoiled(7, -1), 2 + most);
            due.is("the told one", x.allBoiled(2, -1), most);
            due.is("the untold ones", x.allBoiled(5, -1), 2);
            x.wish(1, most + 1);
            x.wish(1, 0);
            due.is("as refused WISHES leave it", x.allBoiled(2, -1), most);
            x.wish(1, 1);
            due.is("told 1", x.allBoiled(2, -1), 1);
        }
    }

    private static void whateverTheyAre(Due due) {
        EggThrones x = Due.toldOf("p2 99 3;" + "e0 1;".repeat(6));
        for (int e = 0; e < 6; e++) {
            x.wish(e, 3);
        }
        due.is("in the BOX", x.allBoiled(63, -1), 9);
        x.put(0);
        x.takeOut(0);
        x.crown(0);
        x.put(1);
        x.minute(4);
        x.put(2);
        x.put(3);
        x.takeOut(2);
        x.takeOut(3);
        x.crown(2);
        x.put(4);
        x.minute(1);
        int[] is = {4, 5, 3, 2, 1, 0};
        for (int e = 0; e < 6; e++) {
            due.is("egg " + e + " is", x.egg(e, 2), is[e]);
            due.is("egg " + e + " alone", x.allBoiled(1 << e, -1), 3);
        }
        due.is("in each state", x.allBoiled(63, -1), 9);
    }

    private static void fewestMinutes(Due due) {
        int[] seven = {30, 30, 30, 30, 30, 30, 30};
        due.is("one place", wishing(1, seven).allBoiled(127, -1), 210);
        due.is("two places", wishing(2, seven).allBoiled(127, -1), 120);
        due.is("three places", wishing(3, seven).allBoiled(127, -1), 90);
        due.is("one EGG", wishing(3, 30).allBoiled(1, -1), 30);
        due.is("fewer EGGS than places", wishing(3, 4, 7).allBoiled(3, -1), 7);
        due.is("as many as places", wishing(3, 4, 7, 2).allBoiled(7, -1), 7);
        // the longest first would take 7: 3 and 2 and 2 beside 3 and 2
        due.is("no greed", wishing(2, 3, 3, 2, 2, 2).allBoiled(31, -1), 6);
        due.is("no even parts", wishing(2, 5, 1, 1).allBoiled(7, -1), 5);
        due.is("9 each", wishing(3, 5, 5, 4, 4, 3, 3, 3).allBoiled(127, -1), 9);
    }

    private static void placesInBounds(Due due) {
        for (int places = 1; places <= 3; places++) {
            EggThrones x = wishing(places, 9, 9, 9, 9, 9, 9, 9);
            int used = 0;
            for (int e = 0; e < 7; e++) {
                int place = x.allBoiled(127, e);
                due.is("place " + place + " of " + places, place >= 0 && place < places ? 1 : 0, 1);
                used |= 1 << place;
            }
            due.is("all of " + places + " are used", used, (1 << places) - 1);
        }
    }

    private static void places(Due due, EggThrones x, int set, int... want) {
        for (int e = 0; e < want.length; e++) {
            due.is("place of " + e + " in the set " + set, x.allBoiled(set, e), want[e]);
        }
    }

    private static void firstWay(Due due) {
        places(due, wishing(2, 1, 1, 1, 1), 15, 0, 0, 1, 1);
        places(due, wishing(3, 1, 1, 1), 7, 0, 1, 2);
        places(due, wishing(3, 1, 1, 1, 1), 15, 0, 0, 1, 1);
        places(due, wishing(3, 1, 1, 9, 1), 15, 0, 0, 1, 0);
        places(due, wishing(3, 9, 1, 1, 1), 15, 0, 1, 1, 1);
        places(due, wishing(1, 5, 6, 7), 7, 0, 0, 0);
        places(due, wishing(2, 3, 3, 2, 2, 2), 31, 0, 0, 1, 1, 1);
        places(due, wishing(3, 5, 5, 4, 4, 3, 3, 3), 127, 0, 1, 0, 1, 2, 2, 2);
        places(due, wishing(3, 30, 1, 1, 1, 1, 1, 1), 127, 0, 1, 1, 1, 1, 1, 1);
        places(due, wishing(3, 1, 1, 1, 1, 1, 1, 6), 127, 0, 0, 0, 0, 0, 0, 1);
    }

    private static void notOfTheSet(Due due) {
        EggThrones x = wishing(2, 1, 2, 3, 4);
        for (int set = 0; set <= 15; set++) {
            for (int e = 0; e < 4; e++) {
                boolean isOfIt = (set >> e & 1) == 1;
                due.is("egg " + e + " of the set " + set, x.allBoiled(set, e) == Due.NONE ? 0 : 1, isOfIt ? 1 : 0);
            }
        }
        places(due, x, 10, Due.NONE, 0, Due.NONE, 1);
    }

    private static void dynastyOfThoseOut(Due due) {
        EggThrones x = sized(99, 1, 1, 1, 1);
        due.is("all that are OUT", x.dynasty(2), 15);
        x.crown(0);
        due.is("not the KING", x.dynasty(2), 14);
        x.put(1);
        due.is("not one in the PAN", x.dynasty(2), 12);
        x.minute(10);
        due.is("neither SCRAPED nor CRACKED", x.dynasty(2), 12);
        due.is("SCRAPED and CRACKED", x.egg(0, 2) * 10 + x.egg(1, 2), 45);
        due.is("how many", x.dynasty(0), 2);
        due.is("MINUTES", x.dynasty(1), 4);
    }

    private static void dynasty(Due due, EggThrones x, int many, int minutes, int set) {
        int soldiers = x.told(1);
        due.is("how many by " + soldiers, x.dynasty(0), many);
        due.is("MINUTES by " + soldiers, x.dynasty(1), minutes);
        due.is("the SET by " + soldiers, x.dynasty(2), set);
    }

    private static void dynastyBySoldiers(Due due) {
        // reigns 2 and 3
        int[][] want = {{0, 0, 0}, {0, 0, 0}, {0, 0, 0}, {0, 0, 0}, {1, 2, 1}, {1, 2, 1}, {1, 3, 2}, {1, 3, 2}, {1, 3, 2},
            {1, 3, 2}, {2, 5, 3}, {2, 5, 3}};
        for (int soldiers = 0; soldiers < want.length; soldiers++) {
            dynasty(due, sized(soldiers, 1, 2), want[soldiers][0], want[soldiers][1], want[soldiers][2]);
        }
        EggThrones x = sized(4, 1);
        dynasty(due, x, 1, 2, 1);
        x.put(0);
        x.takeOut(0);
        x.undo();
        x.undo();
        dynasty(due, x, 1, 2, 1);
        EggThrones most = sized(99, 5, 5, 5, 5, 5, 5, 5);
        dynasty(due, most, 7, 42, 127);
    }

    private static void dynastyOfMost(Due due) {
        // reigns 6 2 3: two short ones ahead of the long one, by five MINUTES; by eight the long one and a short one
        dynasty(due, sized(10, 5, 1, 2), 2, 5, 6);
        dynasty(due, sized(16, 5, 1, 2), 2, 8, 3);
        dynasty(due, sized(18, 5, 1, 2), 2, 9, 5);
        dynasty(due, sized(22, 5, 1, 2), 3, 11, 7);
        dynasty(due, sized(8, 5, 1, 2), 1, 3, 4);
    }

    private static void dynastyOfLeastSet(Due due) {
        dynasty(due, sized(4, 1, 1, 1), 1, 2, 1);
        dynasty(due, sized(8, 1, 1, 1), 2, 4, 3);
        // reigns 2 3 4 5: 2 and 5, 3 and 4 are seven MINUTES each
        dynasty(due, sized(14, 1, 2, 3, 4), 2, 7, 6);
        dynasty(due, sized(14, 2, 1, 4, 3), 2, 7, 6);
        dynasty(due, sized(14, 1, 4, 3, 2), 2, 7, 3);
        dynasty(due, sized(0, 1, 1), 0, 0, 0);
    }

    private static void liked(Due due, EggThrones x, int many, int... eggs) {
        due.is("how many", x.liked(Due.NONE), many);
        for (int m = 0; m < eggs.length; m++) {
            due.is("the EGG of " + m, x.liked(m), eggs[m]);
        }
    }

    private static void likedByMost(Due due) {
        // hard 5 15 25: the first eater must leave egg 0 to the second
        liked(due, waiting("p1 0 9;", "m0 15;m0 5;", 1, 2, 3), 2, 1, 0);
        liked(due, waiting("p1 0 9;", "m0 99;m0 99;m5 5;", 1, 2, 3), 3, 1, 2, 0);
        liked(due, waiting("p1 0 9;", "m0 99;m0 15;m0 5;m25 25;m15 15;", 1, 2, 3), 3, 0, 1, Due.NONE, 2, Due.NONE);
        EggThrones x = waiting("p1 99 9;", "m0 99;m0 99;", 1, 2, 3);
        x.crown(0);
        liked(due, x, 2, 1, 2);
        x.put(1);
        liked(due, x, 1, 2, Due.NONE);
        x.minute(60);
        liked(due, x, 1, 2, Due.NONE);
        // on the bounds and beside them
        liked(due, waiting("p1 0 9;", "m15 15;", 2), 1, 0);
        liked(due, waiting("p1 0 9;", "m16 99;", 2), 0, Due.NONE);
        liked(due, waiting("p1 0 9;", "m0 14;", 2), 0, Due.NONE);
        liked(due, waiting("p1 0 9;", "m0 0;", 0), 1, 0);
        liked(due, waiting("p1 0 30;", "m99 99;", 11), 1, 0);
    }

    private static void likedByTheFirst(Due due) {
        liked(due, waiting("p1 0 9;", "m0 99;m0 99;m0 99;m0 99;m0 99;", 0, 0, 0, 0, 0, 0, 0), 5, 0, 1, 2, 3, 4);
        liked(due, waiting("p1 0 9;", "m0 99;m0 99;m0 99;", 0), 1, 0, Due.NONE, Due.NONE);
        liked(due, waiting("p1 0 9;", "m50 60;m0 99;m0 99;", 1, 2), 2, Due.NONE, 0, 1);
        // an EGG for the lesser EATER, though it is his only one and another's too
        liked(due, waiting("p1 0 9;", "m15 15;m5 15;", 1, 2), 2, 1, 0);
        liked(due, waiting("p1 0 9;", "m5 5;m5 5;m0 99;", 2, 1), 2, 1, Due.NONE, 0);
        liked(due, waiting("p1 0 9;", "m0 99;"), 0, Due.NONE);
    }

    private static void goose(Due due) {
        for (int eaters = 1; eaters <= 5; eaters++) {
            for (int n = 0; n <= 999; n++) {
                EggThrones x = Due.toldOf("p1 0 1;" + "m0 1;".repeat(eaters));
                int sum = 0;
                for (int m = 0; m < eaters; m++) {
                    int gets = x.goose(n, m);
                    sum += gets;
                    due.is("alike, but for one", gets == n / eaters || gets == n / eaters + 1 ? 1 : 0, 1);
                    due.is("the lesser ones first", m > 0 && gets > x.goose(n, m - 1) ? 1 : 0, 0);
                }
                due.is("nothing of " + n + " is left", sum, n);
            }
        }
        EggThrones five = Due.toldOf("p1 0 1;" + "m0 1;".repeat(5));
        int[] gets = {200, 200, 200, 200, 199};
        for (int m = 0; m < 5; m++) {
            due.is("999 to five, eater " + m, five.goose(999, m), gets[m]);
            due.is("0 to five, eater " + m, five.goose(0, m), 0);
            due.is("4 to five, eater " + m, five.goose(4, m), m < 4 ? 1 : 0);
        }
    }

    private static void wholeInBounds(Due due) {
        for (int q : new int[] {0, 1, 50, 99, 100}) {
            EggThrones x = new EggThrones();
            for (int n = 0; n <= 60; n++) {
                boolean isOdds = x.whole(n, q) >= 0 && x.whole(n, q) <= 1000000000;
                due.is("whole(" + n + ", " + q + ")", isOdds ? 1 : 0, 1);
            }
            due.is("of none", x.whole(0, q), 1000000000);
            due.is("whole(-1, " + q + ")", x.whole(-1, q), Due.OUTSIDE);
            due.is("whole(61, " + q + ")", x.whole(61, q), Due.OUTSIDE);
        }
    }

    private static void wholeIsCutEachTime(Due due) {
        int differ = 0;
        for (int q = 0; q <= 100; q++) {
            EggThrones x = new EggThrones();
            BigInteger odds = BigInteger.valueOf(1000000000);
            BigInteger power = BigInteger.ONE;
            for (int n = 0; n <= 60; n++) {
                due.is("whole(" + n + ", " + q + ")", x.whole(n, q), odds.longValueExact());
                BigInteger once = BigInteger.valueOf(1000000000).multiply(power).divide(BigInteger.valueOf(100).pow(n));
                differ += once.equals(odds) ? 0 : 1;
                odds = odds.multiply(BigInteger.valueOf(100 - q)).divide(BigInteger.valueOf(100));
                power = power.multiply(BigInteger.valueOf(100 - q));
            }
        }
        due.is("cut once at the end would differ", differ > 0 ? 1 : 0, 1);
    }

    private static void needsInBounds(Due due) {
        for (int minutes = 1; minutes <= 99; minutes++) {
            EggThrones x = Due.toldOf("p1 0 30;e30 5;");
            int needs = x.needs(0, minutes);
            due.is("needs(0, " + minutes + ")", needs >= 0 && needs <= 30 ? 1 : needs, minutes <= 15 ? 1 : Due.NONE);
        }
    }

    private static void allBoiledOfTheEmptySet(Due due) {
        EggThrones x = wishing(2, 3, 4, 5);
        due.is("the empty SET", x.allBoiled(0, Due.NONE), 0);
        for (int e = 0; e < 3; e++) {
            due.is("a place in the empty SET", x.allBoiled(0, e), Due.NONE);
        }
        due.is("without EGGS", Due.toldOf("p1 0 1;").allBoiled(0, Due.NONE), 0);
        due.is("MINUTES", x.allBoiled(7, Due.NONE), 7);
        due.is("the place", x.allBoiled(7, 2), 1);
        due.is("NONE", x.allBoiled(3, 2), Due.NONE);
        due.is("the empty SET behind another", x.allBoiled(0, Due.NONE), 0);
    }

    private static void allBoiledUnknown(Due due) {
        due.bounds("allBoiled(n, -1)", (x, n) -> x.allBoiled(n, -1), 0, 15, Due.UNKNOWN);
        due.bounds("allBoiled(n, 0)", (x, n) -> x.allBoiled(n, 0), 0, 15, Due.UNKNOWN);
        due.bounds("allBoiled(0, n)", (x, n) -> x.allBoiled(0, n), -1, 3, Due.UNKNOWN);
        EggThrones seven = wishing(3, 1, 1, 1, 1, 1, 1, 1);
        due.is("all seven", seven.allBoiled(127, -1), 3);
        due.is("an eighth", seven.allBoiled(128, -1), Due.UNKNOWN);
        due.is("an eighth besides", seven.allBoiled(255, -1), Due.UNKNOWN);
        due.is("egg 7", seven.allBoiled(127, 7), Due.UNKNOWN);
        due.is("without EGGS", Due.toldOf("p1 0 1;").allBoiled(1, -1), Due.UNKNOWN);
        due.is("without EGGS, egg 0", Due.toldOf("p1 0 1;").allBoiled(0, 0), Due.UNKNOWN);
    }

    private static void allBoiledWithoutTable(Due due) {
        due.is("of a new one", new EggThrones().allBoiled(0, -1), Due.NOT);
        due.refused("without a table", States::untold, x -> x.allBoiled(0, -1), Due.NOT);
        EggThrones taken = States.active();
        taken.table();
        due.is("taken away", taken.allBoiled(0, -1), Due.NOT);
    }

    private static void dynastyOfNone(Due due) {
        EggThrones[] none = {new EggThrones(), Due.toldOf("p1 99 9;"), Due.toldOf("p1 99 9;e0 1;"), sized(3, 1), sized(0, 1)};
        for (EggThrones x : none) {
            dynasty(due, x, 0, 0, 0);
        }
        EggThrones x = sized(99, 1, 2, 3);
        dynasty(due, x, 3, 9, 7);
        for (int e = 0; e < 3; e++) {
            x.put(e);
            x.minute(10);
        }
        dynasty(due, x, 0, 0, 0);
    }

    private static void likedOfNone(Due due) {
        due.is("of a new one", new EggThrones().liked(Due.NONE), 0);
        due.is("without EATERS", waiting("p1 0 9;", "", 1, 2).liked(Due.NONE), 0);
        liked(due, Due.toldOf("p1 0 9;m0 99;"), 0, Due.NONE);
        liked(due, Due.toldOf("p1 0 9;e0 1;m0 99;"), 0, Due.NONE);
        liked(due, waiting("p1 0 9;", "m0 4;m6 99;", 1), 0, Due.NONE, Due.NONE);
        liked(due, waiting("p1 0 9;", "m0 4;m5 99;", 1), 1, Due.NONE, 0);
    }

    private static void likedUnknown(Due due) {
        due.bounds("liked(n)", (x, n) -> x.liked(n), -1, 2, Due.UNKNOWN);
        due.is("without a table", new EggThrones().liked(0), Due.UNKNOWN);
        due.is("without EATERS", Due.toldOf("p1 0 1;e0 1;").liked(0), Due.UNKNOWN);
        due.is("a sixth", Due.toldOf("p1 0 1;" + "m0 1;".repeat(5)).liked(5), Due.UNKNOWN);
        due.is("the fifth", Due.toldOf("p1 0 1;" + "m0 1;".repeat(5)).liked(4), Due.NONE);
    }

    private static void gooseUnknown(Due due) {
        due.bounds("goose(9, n)", (x, n) -> x.goose(9, n), 0, 2, Due.UNKNOWN);
        due.is("without a table", new EggThrones().goose(0, 0), Due.UNKNOWN);
        due.is("without EATERS", Due.toldOf("p1 0 1;e0 1;").goose(0, 0), Due.UNKNOWN);
        due.is("without EATERS, and outside", Due.toldOf("p1 0 1;e0 1;").goose(1000, 0), Due.UNKNOWN);
    }

    private static void wholeOfLeastAndMost(Due due) {
        EggThrones x = new EggThrones();
        for (int n = 0; n <= 60; n++) {
            due.is("whole(" + n + ", 0)", x.whole(n, 0), 1000000000);
            due.is("whole(" + n + ", 100)", x.whole(n, 100), n == 0 ? 1000000000 : 0);
        }
        due.is("whole(1, 1)", x.whole(1, 1), 990000000);
        due.is("whole(1, 99)", x.whole(1, 99), 10000000);
    }

    private static void wholeOutside(Due due) {
        due.bounds("whole(n, 0)", (x, n) -> x.whole(n, 0), 0, 60, Due.OUTSIDE);
        due.bounds("whole(0, n)", (x, n) -> x.whole(0, n), 0, 100, Due.OUTSIDE);
        due.is("both", new EggThrones().whole(61, 101), Due.OUTSIDE);
    }
}
