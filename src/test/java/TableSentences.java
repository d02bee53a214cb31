/** Section 1 (THE TABLE and its FAULTS), and promises 1 to 7. */
final class TableSentences {
    private static final String EVEN = "p1 20 6;e10 2;m5 60;";
    /** What stands ahead of and behind each of the numbers, with their bounds. */
    private static final Place[] PLACES = {new Place("p", " 0 1;", 1, 3), new Place("p1 ", " 1;", 0, 99),
        new Place("p1 0 ", ";", 1, 30), new Place("p1 0 1;e", " 1;", 0, 30), new Place("p1 0 1;e0 ", ";", 1, 5),
        new Place("p1 0 1;m", " 99;", 0, 99), new Place("p1 0 1;m0 ", ";", 0, 99)};

    private record Place(String ahead, String behind, int least, int most) { }

    private TableSentences() {
    }

    static void all(Sentences s) {
        s.in("Terms");
        s.holds("THE TABLE is told in a text (240 letters at most)", TableSentences::longestText);
        s.holds(": clauses: 'p' R T B ';'", TableSentences::clauseOfThePan);
        s.holds("(the PAN holds R EGGS, 1 .. 3;", TableSentences::placesOfThePan);
        s.holds("T SOLDIERS of TOAST, 0 .. 99;", due -> numbers(due, PLACES[1]));
        s.holds("an EGG that boils longer than B MINUTES cracks, 1 .. 30;", TableSentences::minutesToCrack);
        s.holds("first, once)", TableSentences::panFirstAndOnce);
        s.holds("'e' A Z ';'", due -> clauseOfTwo(due, 'e'));
        s.holds("(7 EGGS at most:", TableSentences::sevenEggs);
        s.holds("A days old, 0 .. 30;", due -> numbers(due, PLACES[3]));
        s.holds("SIZE Z, 1 .. 5)", due -> numbers(due, PLACES[4]));
        s.holds("'m' L H ';'", due -> clauseOfTwo(due, 'm'));
        s.holds("(5 EATERS at most:", TableSentences::fiveEaters);
        s.holds("like EGGS that are L or more HARD, H or less,", TableSentences::likings);
        s.holds("0 .. 99, L no more than H)", TableSentences::likingsInBounds);
        s.holds("NUMBERS have one to three figures;", TableSentences::figures);
        s.holds("a word is one letter;", TableSentences::oneLetterWords);
        s.holds("blanks (32) may stand anywhere but within NUMBERS;", TableSentences::blanks);
        s.holds("two NUMBERS side by side need one.", TableSentences::numbersApart);
        s.holds("FAULTS, at the first letter that has one (the end at the text's length),", TableSentences::firstFault);
        s.holds("of these the least:", TableSentences::leastFault);
        s.holds("1 it cannot stand there (a letter that is no word, another word first than 'p').", TableSentences::faultOne);
        s.holds("2 a NUMBER of four figures or more, or out of its bounds;", TableSentences::faultTwo);
        s.holds("H below L (at its first).", TableSentences::faultTwoOfLikings);
        s.holds("3 'p' again, an eighth 'e', a sixth 'm' (at it).", TableSentences::faultThree);
        s.holds("An empty text: no TABLE.", TableSentences::emptyText);
    }

    static void promises(Sentences s) {
        s.in("Promise 1: A new object");
        s.holds("No TABLE.", due -> noTable(due, "new", new EggThrones()));
        s.in("Promise 2: feed");
        s.holds("One letter (a number 0 .. 255) comes behind THE TEXT: how many it has.", TableSentences::letters);
        s.holds("OUTSIDE,", due -> due.bounds("feed(n)", (x, n) -> x.feed(n), 0, 255, Due.OUTSIDE));
        s.holds("FULL (240).", TableSentences::fullText);
        s.in("Promise 3: table");
        s.holds("THE TEXT (it is empty then, with a FAULT, too) becomes THE TABLE", TableSentences::textIsEmptyThen);
        s.holds("MINUTE 0, all in the BOX;", TableSentences::morningIsNew);
        s.holds("WISHES 1, nothing SEEN, no BOOK;", TableSentences::notesAreNew);
        s.holds("IMAGES, what could be undone are gone;", TableSentences::pastIsGone);
        s.holds("THE SEED stays)", TableSentences::seedStays);
        s.holds("how many EGGS;", TableSentences::howManyEggs);
        s.holds("-10 less the number of its FAULT (all else is as it was).", TableSentences::allElseIsAsItWas);
        s.in("Promise 4: fault");
        s.holds("The letter of the FAULT of the latest table(); NONE.", TableSentences::latestFault);
        s.in("Promise 5: told");
        s.holds("0 R, 1 SOLDIERS, 2 B, 3 EGGS, 4 EATERS, 5 letters of THE TEXT,", TableSentences::toldOfTheTable);
        s.holds("6 MINUTES, 7 KING (NONE), 8 MINUTES that he has yet (0),", TableSentences::toldOfTheKing);
        s.holds("9 REIGNED, 10 how many were SCRAPED,", TableSentences::toldOfReigns);
        s.holds("11 EGGS in the PAN, 12 OUT, 13 PRETENDERS (SETS), 14 HEIR,", TableSentences::toldOfSets);
        s.holds("15 what is SEEN, 16 entries of THE BOOK, 17 how many can be undone.", TableSentences::toldOfCounts);
        s.holds("OUTSIDE.", due -> due.bounds("told(n)", (x, n) -> x.told(n), 0, 17, Due.OUTSIDE));
        s.in("Promise 6: egg");
        s.holds("Of an EGG: what = 0 A, 1 Z,", TableSentences::ageAndSize);
        s.holds("2 what it is (0 .. 5),", TableSentences::whatAnEggIs);
        s.holds("3 BOILED, 4 HARD, 5 REIGN as it is, 6 its WISH.", TableSentences::howAnEggIs);
        s.holds("UNKNOWN,", due -> due.bounds("egg(n, 0)", (x, n) -> x.egg(n, 0), 0, 3, Due.UNKNOWN));
        s.holds(" OUTSIDE.", due -> due.bounds("egg(3, n)", (x, n) -> x.egg(3, n), 0, 6, Due.OUTSIDE));
        s.in("Promise 7: eater");
        s.holds("Of an EATER: what = 0 L, 1 H.", TableSentences::likingOfAnEater);
        s.holds("UNKNOWN,", due -> due.bounds("eater(n, 0)", (x, n) -> x.eater(n, 0), 0, 2, Due.UNKNOWN));
        s.holds(" OUTSIDE.", due -> due.bounds("eater(2, n)", (x, n) -> x.eater(2, n), 0, 1, Due.OUTSIDE));
    }

    private static void fine(Due due, String text, int eggs) {
        EggThrones x = new EggThrones();
        due.is("table() of '" + text + "'", Due.tell(x, text), eggs);
        due.is("fault() of '" + text + "'", x.fault(), Due.NONE);
    }

    private static void faulty(Due due, String text, int number, int place) {
        EggThrones x = new EggThrones();
        due.is("table() of '" + text + "'", Due.tell(x, text), -10 - number);
        due.is("fault() of '" + text + "'", x.fault(), place);
    }

    private static void noTable(Due due, String name, EggThrones x) {
        for (int what = 0; what <= 17; what++) {
            due.is(name + ": told(" + what + ")", x.told(what), what == 7 || what == 14 ? -1 : 0);
        }
        due.is(name + ": egg(0, 0)", x.egg(0, 0), Due.UNKNOWN);
        due.is(name + ": eater(0, 0)", x.eater(0, 0), Due.UNKNOWN);
        due.is(name + ": minute(1)", x.minute(1), Due.NOT);
        due.is(name + ": drift(1)", x.drift(1), Due.NOT);
        due.is(name + ": cutToast(1)", x.cutToast(1), Due.NOT);
        due.is(name + ": allBoiled(0, -1)", x.allBoiled(0, -1), Due.NOT);
        due.is(name + ": undo()", x.undo(), Due.NOT);
        due.is(name + ": goBack(0)", x.goBack(0), Due.NOT);
        due.is(name + ": goBack(1)", x.goBack(1), Due.NOT);
        due.is(name + ": put(0)", x.put(0), Due.UNKNOWN);
        due.is(name + ": goose(0, 0)", x.goose(0, 0), Due.UNKNOWN);
        for (int what = 0; what <= 2; what++) {
            due.is(name + ": dynasty(" + what + ")", x.dynasty(what), 0);
        }
        due.is(name + ": liked(-1)", x.liked(-1), 0);
        due.is(name + ": ages()", x.ages(), Integer.MAX_VALUE);
        due.is(name + ": testNext()", x.testNext(), 1);
        due.is(name + ": judge()", x.judge(), Due.NONE);
        due.is(name + ": tear()", x.tear(), 0);
    }

    private static void numbers(Due due, Place place) {
        for (int value = 0; value <= 999; value++) {
            String text = place.ahead + value + place.behind;
            if (value >= place.least && value <= place.most) {
                fine(due, text, text.contains("e") ? 1 : 0);
            } else {
                faulty(due, text, 2, place.ahead.length());
            }
        }
    }

    private static void longestText(Due due) {
        fine(due, "p1 0 1;" + " ".repeat(228) + "e0 1;", 1);
        faulty(due, "p1 0 1;" + " ".repeat(229) + "e0 1", 1, 240);
        // the 241st letter, which would end the clause, is not taken
        faulty(due, "p1 0 1;" + " ".repeat(229) + "e0 1;", 1, 240);
        fine(due, "p1 0 1;" + " ".repeat(233) + "x", 0);
        faulty(due, "p1 0 1;" + " ".repeat(232) + "x", 1, 239);
    }

    private static void clauseOfThePan(Due due) {
        EggThrones x = Due.toldOf("p2 7 9;");
        for (int what = 0; what <= 2; what++) {
            due.is("told(" + what + ")", x.told(what), new int[] {2, 7, 9}[what]);
        }
        faulty(due, "p;", 1, 1);
        faulty(due, "p2;", 1, 2);
        faulty(due, "p2 7;", 1, 4);
        faulty(due, "p2 7 9 9;", 1, 7);
        faulty(due, "p2 7 9", 1, 6);
        faulty(due, "p2 7 9,", 1, 6);
        faulty(due, "p2,7 9;", 1, 2);
        faulty(due, "P2 7 9;", 1, 0);
        faulty(due, "2 7 9;", 1, 0);
        faulty(due, "p2 7 9;;", 1, 7);
    }

    /** The clauses of an egg and of an eater: a word, two numbers, the end. */
    private static void clauseOfTwo(Due due, char word) {
        String pan = "p1 0 1;" + word;
        EggThrones x = Due.toldOf(pan + "3 5;");
        due.is("EGGS", x.told(3), word == 'e' ? 1 : 0);
        due.is("EATERS", x.told(4), word == 'm' ? 1 : 0);
        due.is("the first number", word == 'e' ? x.egg(0, 0) : x.eater(0, 0), 3);
        due.is("the second number", word == 'e' ? x.egg(0, 1) : x.eater(0, 1), 5);
        faulty(due, pan + ";", 1, 8);
        faulty(due, pan + "3;", 1, 9);
        faulty(due, pan + "3 5 5;", 1, 12);
        faulty(due, pan + "3 5", 1, 11);
        faulty(due, pan + "3 5" + word, 1, 11);
        faulty(due, pan + "3 5 p", 1, 12);
        faulty(due, pan + "3-5;", 1, 9);
        faulty(due, pan + "-3 5;", 1, 8);
        faulty(due, pan + word + "3 5;", 1, 8);
        faulty(due, "p1 0 1;" + Character.toUpperCase(word) + "3 5;", 1, 7);
        faulty(due, "p1 0 1;3 5;", 1, 7);
    }

    private static void placesOfThePan(Due due) {
        numbers(due, PLACES[0]);
        for (int places = 1; places <= 3; places++) {
            EggThrones x = Due.toldOf("p" + places + " 0 1;" + "e0 1;".repeat(5));
            due.is("told(0)", x.told(0), places);
            for (int e = 0; e < 5; e++) {
                due.is("egg " + e + " into a pan of " + places, x.put(e), e < places ? e + 1 : Due.NOT);
            }
        }
    }

    private static void minutesToCrack(Due due) {
        numbers(due, PLACES[2]);
        for (int most = 1; most <= 30; most++) {
            EggThrones x = Due.toldOf("p1 0 " + most + ";e0 1;");
            x.put(0);
            x.minute(most);
            due.is("boiled " + most + " of " + most, x.egg(0, 2), 1);
            x.minute(1);
            due.is("boiled longer than " + most, x.egg(0, 2), 5);
        }
    }

    private static void panFirstAndOnce(Due due) {
        faulty(due, "e0 1;p1 0 1;", 1, 0);
        faulty(due, "m0 1;p1 0 1;", 1, 0);
        faulty(due, "p1 0 1;p1 0 1;", 3, 7);
        fine(due, "p1 0 1;", 0);
    }

    private static void sevenEggs(Due due) {
        for (int many = 0; many <= 9; many++) {
            String text = "p1 0 1;" + "e0 1;".repeat(many);
            if (many <= 7) {
                fine(due, text, many);
            } else {
                faulty(due, text, 3, 42);
            }
        }
    }

    private static void fiveEaters(Due due) {
        for (int many = 0; many <= 7; many++) {
            String text = "p1 0 1;" + "m0 1;".repeat(many);
            if (many <= 5) {
                fine(due, text, 0);
                due.is("told(4)", Due.toldOf(text).told(4), many);
            } else {
                faulty(due, text, 3, 32);
            }
        }
    }

    private static void likings(Due due) {
        // boiled 1 to 5 the egg is 5 15 25 35 45 hard
        EggThrones x = Due.toldOf("p1 0 30;e0 1;m15 35;m16 35;m15 34;m25 25;m0 99;");
        int[][] likes = {{0, 0, 0, 0, 1}, {1, 0, 1, 0, 1}, {1, 1, 1, 1, 1}, {1, 1, 0, 0, 1}, {0, 0, 0, 0, 1}};
        for (int boiled = 1; boiled <= 5; boiled++) {
            Due.boil(x, 0, 1);
            int first = Due.NONE;
            for (int m = 4; m >= 0; m--) {
                first = likes[boiled - 1][m] == 1 ? m : first;
            }
            for (int m = 0; m < 5; m++) {
                due.is("eater " + m + ", hard " + x.egg(0, 4), x.liked(m), m == first ? 0 : Due.NONE);
            }
        }
    }

    private static void likingsInBounds(Due due) {
        numbers(due, PLACES[5]);
        numbers(due, PLACES[6]);
        for (int low = 0; low <= 99; low++) {
            for (int high = 0; high <= 99; high++) {
                String ahead = "p1 0 1;m" + low + " ";
                if (low <= high) {
                    fine(due, ahead + high + ";", 0);
                } else {
                    faulty(due, ahead + high + ";", 2, ahead.length());
                }
            }
        }
    }

    private static void figures(Due due) {
        for (Place place : PLACES) {
            int eggs = place.ahead.contains("e") ? 1 : 0;
            int value = Math.max(place.least, place.most - 1);
            fine(due, place.ahead + value + place.behind, eggs);
            fine(due, place.ahead + String.format("%02d", value) + place.behind, eggs);
            fine(due, place.ahead + String.format("%03d", value) + place.behind, eggs);
            for (int figures : new int[] {4, 5, 10, 11, 100}) {
                faulty(due, place.ahead + String.format("%0" + figures + "d", value) + place.behind, 2, place.ahead.length());
            }
            // by 2 to the 32 left over these would be in their bounds
            faulty(due, place.ahead + (4294967296L + value) + place.behind, 2, place.ahead.length());
            faulty(due, place.ahead + "18446744073709551617" + place.behind, 2, place.ahead.length());
        }
        for (String none : new String[] {"p;", "p1;", "p1 0;", "p1 0 1;e;", "p1 0 1;e0;", "p1 0 1;m;", "p1 0 1;m0;"}) {
            faulty(due, none, 1, none.length() - 1);
        }
        EggThrones x = Due.toldOf("p003 099 030;e030 005;m000 099;");
        int[] told = {3, 99, 30, 1, 1};
        for (int what = 0; what < 5; what++) {
            due.is("told(" + what + ") of three figures", x.told(what), told[what]);
        }
    }

    private static void oneLetterWords(Due due) {
        faulty(due, "pp1 0 1;", 1, 1);
        faulty(due, "pan1 0 1;", 1, 1);
        faulty(due, "p1 0 1;ee0 1;", 1, 8);
        faulty(due, "p1 0 1;em0 1;", 1, 8);
        faulty(due, "p1 0 1;mm0 1;", 1, 8);
    }

    private static boolean isFigure(String text, int at) {
        return at >= 0 && at < text.length() && Character.isDigit(text.charAt(at));
    }

    private static void blanks(Due due) {
        for (int at = 0; at <= EVEN.length(); at++) {
            if (!isFigure(EVEN, at - 1) || !isFigure(EVEN, at)) {
                fine(due, EVEN.substring(0, at) + " " + EVEN.substring(at), 1);
                fine(due, EVEN.substring(0, at) + "    " + EVEN.substring(at), 1);
            }
        }
        fine(due, " p 1  20  6 ; e  10  2 ; m  5  60 ; ", 1);
        faulty(due, "p1 2 2 6;", 1, 7);
        faulty(due, "p1 0 1;e1 2 3;", 1, 12);
        faulty(due, "p1 0 1;m1 5 60;", 1, 12);
        for (int letter = 0; letter <= 255; letter++) {
            if (letter != 32 && (letter < '0' || letter > '9')) {
                faulty(due, "p" + (char) letter + "1 0 1;", 1, 1);
                faulty(due, "p1" + (char) letter + "0 1;", 1, 2);
                faulty(due, "p1 0 1" + (char) letter + ";", 1, letter == ';' ? 7 : 6);
            }
        }
        for (int many = 1; many <= 240; many++) {
            fine(due, " ".repeat(many), 0);
        }
    }

    private static void numbersApart(Due due) {
        fine(due, "p1 0 1;", 0);
        faulty(due, "p10 1;", 2, 1);
        faulty(due, "p1 01;", 1, 5);
        faulty(due, "p1 100;", 2, 3);
        faulty(due, "p101;", 2, 1);
        faulty(due, "p1 0 1;e01;", 1, 10);
        faulty(due, "p1 0 1;e301;", 2, 8);
        faulty(due, "p1 0 1;m09;", 1, 10);
        faulty(due, "p1 0 1;m999;", 2, 8);
    }

    private static void firstFault(Due due) {
        for (int length = 0; length <= EVEN.length(); length++) {
            String text = EVEN.substring(0, length);
            if (text.isEmpty() || text.endsWith(";")) {
                fine(due, text, length > 8 ? 1 : 0);
            } else {
                faulty(due, text, 1, length);
                faulty(due, text + "   ", 1, length + 3);
            }
        }
        faulty(due, "p0 100 31;x", 2, 1);
        faulty(due, "p1 100 31;x", 2, 3);
        faulty(due, "p1 9 31;x", 2, 5);
        faulty(due, "p1 9 9;xp", 1, 7);
        faulty(due, "p1 9 9;pe0 0;", 3, 7);
        faulty(due, "p1 9 9;e0 0;p", 2, 10);
        faulty(due, "p1 9 9x;e0 0;p", 1, 6);
        faulty(due, "p4x", 2, 1);
        faulty(due, "p1 0 1;m9 8", 2, 10);
    }

    private static void leastFault(Due due) {
        // 1 and 2 at one letter
        faulty(due, "p1 0 1 5555;", 1, 7);
        faulty(due, "5555", 1, 0);
        faulty(due, "p1 0 1;1000", 1, 7);
        // 1 and 3 at one letter
        faulty(due, "p1 p", 1, 3);
        faulty(due, "p1 0 1;e0 p", 1, 10);
        faulty(due, "p1 0 1;" + "e0 1;".repeat(7) + "m0 e", 1, 45);
        faulty(due, "p1 0 1;" + "m0 1;".repeat(5) + "e0 m", 1, 35);
    }

    private static void faultOne(Due due) {
        for (int letter = 0; letter <= 255; letter++) {
            if (letter != 32 && letter != 'p') {
                faulty(due, "" + (char) letter, 1, 0);
                faulty(due, "  " + (char) letter + "0 1;", 1, 2);
            }
            if (letter != 32 && letter != 'p' && letter != 'e' && letter != 'm') {
                faulty(due, "p1 0 1;" + (char) letter, 1, 7);
                faulty(due, "p1 0 1;e0 1; " + (char) letter, 1, 13);
            }
        }
        faulty(due, "p", 1, 1);
        faulty(due, "p1 0 1;e", 1, 8);
        faulty(due, "p1 0 1;m", 1, 8);
    }

    private static void faultTwo(Due due) {
        for (Place place : PLACES) {
            int at = place.ahead.length();
            faulty(due, place.ahead + "0000" + place.behind, 2, at);
            faulty(due, place.ahead + "0001" + place.behind, 2, at);
            faulty(due, place.ahead + (place.most + 1) + place.behind, 2, at);
            faulty(due, place.ahead + "  " + (place.most + 1) + place.behind, 2, at + 2);
            // at its first figure, also where the text ends with it
            faulty(due, place.ahead + "999", 2, at);
            faulty(due, place.ahead + "1111", 2, at);
            if (place.least > 0) {
                faulty(due, place.ahead + (place.least - 1) + place.behind, 2, at);
            }
        }
    }

    private static void faultTwoOfLikings(Due due) {
        faulty(due, "p1 0 1;m1 0;", 2, 10);
        faulty(due, "p1 0 1;m99 98;", 2, 11);
        faulty(due, "p1 0 1;m 99   98;", 2, 14);
        faulty(due, "p1 0 1;m100 0;", 2, 8);
        fine(due, "p1 0 1;m99 99;", 0);
        fine(due, "p1 0 1;m0 0;", 0);
    }

    private static void faultThree(Due due) {
        faulty(due, "p1 0 1;p", 3, 7);
        faulty(due, "p1 0 1;e0 1;m0 1;   p2 0 1;", 3, 20);
        String eggs = "p1 0 1;" + "e0 1;".repeat(7);
        faulty(due, eggs + "e", 3, 42);
        faulty(due, eggs + " e0 1;", 3, 43);
        faulty(due, eggs + "m0 1;exx", 3, 47);
        fine(due, eggs + "m0 1;".repeat(5), 7);
        String eaters = "p1 0 1;" + "m0 1;".repeat(5);
        faulty(due, eaters + "m", 3, 32);
        faulty(due, eaters + "  m0 1;", 3, 34);
        faulty(due, eaters + "e0 1;m9999", 3, 37);
        fine(due, eaters + "e0 1;".repeat(7), 7);
    }

    private static void emptyText(Due due) {
        EggThrones x = new EggThrones();
        due.is("table() of a new one", x.table(), 0);
        noTable(due, "new, the empty text", x);
        EggThrones y = States.active();
        due.is("table() where one stood", y.table(), 0);
        due.is("fault() then", y.fault(), Due.NONE);
        noTable(due, "where one stood", y);
        EggThrones z = States.busy();
        z.table();
        due.is("table() behind a fault", z.table(), 0);
        due.is("fault() behind a fault", z.fault(), Due.NONE);
        noTable(due, "behind a fault", z);
    }

    private static void letters(Due due) {
        for (int letter = 0; letter <= 255; letter++) {
            EggThrones x = new EggThrones();
            due.is("feed(" + letter + ")", x.feed(letter), 1);
            due.is("told(5)", x.told(5), 1);
        }
        EggThrones x = new EggThrones();
        for (int many = 1; many <= 240; many++) {
            due.is("letter " + many, x.feed(many), many);
        }
    }

    private static void fullText(Due due) {
        EggThrones x = new EggThrones();
        for (int many = 1; many < 240; many++) {
            x.feed(32);
        }
        due.is("the 240th", x.feed(32), 240);
        due.is("the 241st", x.feed(32), Due.FULL);
        due.is("told(5)", x.told(5), 240);
        x.table();
        due.is("the first of the next text", x.feed(32), 1);
        due.refused("the 241st", States::withFullText, y -> y.feed('x'), Due.FULL);
    }

    private static void textIsEmptyThen(Due due) {
        EggThrones x = new EggThrones();
        for (String text : new String[] {"", "p1 0 1;e0 1;", "p1 0 1;x", "p9", "p1 0 1;p", "p", "  "}) {
            Due.tell(x, text);
            due.is("told(5) behind '" + text + "'", x.told(5), 0);
            due.is("a letter behind '" + text + "'", x.feed(32), 1);
            x.table();
        }
        due.is("what was read is not read again", Due.tell(x, "p1 0 1;") == 0 ? x.table() : -2, 0);
        due.is("no table then", x.told(0), 0);
    }

    private static void morningIsNew(Due due) {
        EggThrones x = States.busy();
        x.minute(3);
        due.is("one is scraped", x.told(10), 1);
        x.table();
        due.is("table()", Due.tell(x, Due.USUAL), 4);
        int[] told = {2, 20, 6, 4, 3, 0, 0, -1, 0, 0, 0, 0, 0, 0, -1};
        for (int what = 0; what < told.length; what++) {
            due.is("told(" + what + ")", x.told(what), told[what]);
        }
        for (int e = 0; e < 4; e++) {
            due.is("egg " + e + " is in the box", x.egg(e, 2), 0);
            due.is("egg " + e + " is not boiled", x.egg(e, 3), 0);
        }
    }

    private static void notesAreNew(Due due) {
        EggThrones x = States.busy();
        x.wish(3, 6);
        x.table();
        Due.tell(x, Due.USUAL);
        for (int e = 0; e < 4; e++) {
            due.is("wish of " + e, x.egg(e, 6), 1);
        }
        due.is("told(15)", x.told(15), 0);
        due.is("ages()", x.ages(), Integer.MAX_VALUE);
        due.is("told(16)", x.told(16), 0);
        due.is("judge()", x.judge(), Due.NONE);
        due.is("tear()", x.tear(), 0);
    }

    private static void pastIsGone(Due due) {
        EggThrones x = States.busy();
        x.table();
        Due.tell(x, Due.USUAL);
        due.is("told(17)", x.told(17), 0);
        due.is("undo()", x.undo(), Due.NOT);
        due.is("goBack(0)", x.goBack(0), Due.NOT);
        due.is("goBack(1)", x.goBack(1), Due.NOT);
    }

    private static void seedStays(Due due) {
        EggThrones x = States.busy();
        x.table();
        Due.tell(x, Due.USUAL);
        due.is("seed behind a table", x.seed(80), 79);
        Due.tell(x, "x");
        due.is("seed behind a fault", x.seed(81), 80);
        x.table();
        due.is("seed behind an empty text", x.seed(0), 81);
    }

    private static void howManyEggs(Due due) {
        for (int eggs = 0; eggs <= 7; eggs++) {
            fine(due, "p1 0 1;m0 1;" + "e0 1;".repeat(eggs), eggs);
        }
    }

    private static String drainedButForTheFault(EggThrones x) {
        return Due.drained(x).replaceAll("fault -?\\d+ ", "");
    }

    private static void allElseIsAsItWas(Due due) {
        String[] texts = {"x", "e0 1;", "p1 0 1;x", "p", "p9", "p3 5 30;e7 1;e9 9;", "p3 1 1;m5 4;", "p3 1 1;m1 1;p",
            "p1 0 1;" + "e0 1;".repeat(8), "p1 0 1;" + "m0 1;".repeat(6)};
        int[] numbers = {1, 1, 1, 1, 2, 2, 2, 3, 3, 3};
        for (int i = 0; i < texts.length; i++) {
            EggThrones x = States.active();
            due.is("table() of '" + texts[i] + "'", Due.tell(x, texts[i]), -10 - numbers[i]);
            due.same("all behind '" + texts[i] + "'", drainedButForTheFault(x), drainedButForTheFault(States.active()));
            due.is("no table behind '" + texts[i] + "'", Due.toldOf(texts[i]).told(0), 0);
        }
    }

    private static void latestFault(Due due) {
        EggThrones x = new EggThrones();
        due.is("of a new one", x.fault(), Due.NONE);
        Due.tell(x, "p1 0 1;x");
        due.is("of a fault", x.fault(), 7);
        due.is("again", x.fault(), 7);
        x.feed('x');
        due.is("a text that is no table yet", x.fault(), 7);
        x.table();
        due.is("of the next fault", x.fault(), 0);
        Due.tell(x, "p1 0 1;");
        due.is("of none", x.fault(), Due.NONE);
        Due.tell(x, "p");
        due.is("of the end", x.fault(), 1);
        x.table();
        due.is("of an empty text", x.fault(), Due.NONE);
    }

    private static void toldOfTheTable(Due due) {
        EggThrones least = Due.toldOf("p1 0 1;");
        int[] want = {1, 0, 1, 0, 0, 0};
        for (int what = 0; what < 6; what++) {
            due.is("least: told(" + what + ")", least.told(what), want[what]);
        }
        EggThrones most = Due.toldOf("p3 99 30;" + "e30 5;".repeat(7) + "m99 99;".repeat(5));
        Due.feedAll(most, " ".repeat(240));
        int[] wanted = {3, 99, 30, 7, 5, 240};
        for (int what = 0; what < 6; what++) {
            due.is("most: told(" + what + ")", most.told(what), wanted[what]);
        }
    }

    private static void toldOfTheKing(Due due) {
        EggThrones x = Due.toldOf("p1 99 9;e0 1;");
        due.is("MINUTES at first", x.told(6), 0);
        due.is("KING: none", x.told(7), Due.NONE);
        due.is("MINUTES of none", x.told(8), 0);
        x.put(0);
        x.takeOut(0);
        x.crown(0);
        due.is("KING 0", x.told(7), 0);
        due.is("MINUTES that he has yet", x.told(8), 2);
        x.minute(1);
        due.is("the last of them", x.told(8), 1);
        x.minute(1);
        due.is("KING: none again", x.told(7), Due.NONE);
        due.is("MINUTES of none again", x.told(8), 0);
        due.is("MINUTES", x.told(6), 2);
    }

    private static void toldOfReigns(Due due) {
        EggThrones x = Due.toldOf("p3 99 9;e0 1;e0 1;e0 2;");
        int reigned = 0;
        for (int e = 0; e < 3; e++) {
            x.put(e);
            x.takeOut(e);
            int reign = x.crown(e);
            for (int passed = 1; passed <= reign; passed++) {
                due.is("SCRAPED ahead of the end", x.told(10), e);
                x.minute(1);
                reigned++;
                due.is("REIGNED", x.told(9), reigned);
            }
            due.is("SCRAPED", x.told(10), e + 1);
            x.minute(2);
            due.is("REIGNED without a KING", x.told(9), reigned);
        }
        due.is("REIGNED by all", reigned, 7);
    }

    private static void toldOfSets(Due due) {
        EggThrones x = Due.toldOf("p3 99 30;" + "e0 1;".repeat(6) + "e0 5;");
        for (int what = 11; what <= 13; what++) {
            due.is("the empty set: told(" + what + ")", x.told(what), 0);
        }
        due.is("no HEIR", x.told(14), Due.NONE);
        x.put(6);
        due.is("bit 6 in the PAN", x.told(11), 64);
        due.is("no HEIR in the PAN", x.told(14), Due.NONE);
        x.takeOut(6);
        due.is("bit 6 OUT", x.told(12), 64);
        due.is("bit 6 of PRETENDERS", x.told(13), 64);
        due.is("HEIR 6", x.told(14), 6);
        due.is("none in the PAN", x.told(11), 0);
        x.crown(6);
        due.is("a KING is not OUT", x.told(12), 0);
        due.is("a KING is no PRETENDER", x.told(13), 0);
        due.is("a KING is no HEIR", x.told(14), Due.NONE);
    }

    private static void toldOfCounts(Due due) {
        EggThrones x = Due.toldOf(Due.USUAL);
        for (int i = 0; i < 25; i++) {
            due.is("told(15)", x.told(15), Math.min(i, 6));
            due.is("told(16)", x.told(16), Math.min(i, 15));
            due.is("told(17)", x.told(17), Math.min(i, 20));
            x.see(1, 1);
            x.write(0, 0);
            x.cutToast(1);
        }
    }

    private static void ageAndSize(Due due) {
        EggThrones x = Due.toldOf("p1 0 1;e0 5;e30 1;e7 4;e4 2;e29 3;e1 1;e15 5;");
        int[] ages = {0, 30, 7, 4, 29, 1, 15};
        int[] sizes = {5, 1, 4, 2, 3, 1, 5};
        for (int e = 0; e < 7; e++) {
            due.is("A of " + e, x.egg(e, 0), ages[e]);
            due.is("Z of " + e, x.egg(e, 1), sizes[e]);
        }
    }

    private static void howAnEggIs(Due due) {
        EggThrones x = Due.toldOf("p2 99 9;e7 2;e0 1;");
        x.wish(0, 7);
        x.put(0);
        for (int boiled = 0; boiled <= 9; boiled++) {
            int hard = Math.max(0, 10 * boiled - 8);
            due.is("BOILED", x.egg(0, 3), boiled);
            due.is("HARD", x.egg(0, 4), hard);
            due.is("REIGN", x.egg(0, 5), 3 + hard / 10);
            due.is("its WISH", x.egg(0, 6), 7);
            x.minute(1);
        }
        due.is("CRACKED, BOILED", x.egg(0, 3), 10);
        due.is("CRACKED, HARD", x.egg(0, 4), 92);
        Due.boil(x, 1, 2);
        x.crown(1);
        x.minute(1);
        due.is("of a KING the REIGN as it is, not what he has yet", x.egg(1, 5), 3);
        due.is("what he has yet", x.told(8), 2);
        due.is("the other's WISH", x.egg(1, 6), 1);
    }

    private static void likingOfAnEater(Due due) {
        EggThrones x = Due.toldOf("p1 0 1;m0 0;m99 99;m0 99;m7 8;m50 60;");
        int[] softest = {0, 99, 0, 7, 50};
        int[] hardest = {0, 99, 99, 8, 60};
        for (int m = 0; m < 5; m++) {
            due.is("L of " + m, x.eater(m, 0), softest[m]);
            due.is("H of " + m, x.eater(m, 1), hardest[m]);
        }
    }

    private static void whatAnEggIs(Due due) {
        EggThrones x = Due.toldOf("p2 99 3;e0 1;e0 1;");
        due.is("in the BOX", x.egg(0, 2), 0);
        x.put(0);
        x.put(1);
        due.is("in the PAN", x.egg(0, 2), 1);
        x.takeOut(0);
        due.is("OUT", x.egg(0, 2), 2);
        x.crown(0);
        due.is("KING", x.egg(0, 2), 3);
        x.minute(2);
        due.is("SCRAPED", x.egg(0, 2), 4);
        x.minute(2);
        due.is("CRACKED", x.egg(1, 2), 5);
    }
}
