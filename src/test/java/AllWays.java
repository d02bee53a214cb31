import java.util.Random;

/** ALL BOILED, DYNASTY and LIKED held against all ways there are, counted up one by one in the order of their preference. */
final class AllWays {
    private static final int ROUNDS = 150;

    private AllWays() {
    }

    /** A way is a number whose figures are the places, EGG 0 first: so a lesser number is the way that comes first. */
    static void boiled(Due due) {
        Random random = new Random(17);
        for (int round = 0; round < ROUNDS; round++) {
            int places = 1 + random.nextInt(3);
            int[] wishes = random.ints(1 + random.nextInt(7), 1, 1 + (round % 2 == 0 ? 5 : 30)).toArray();
            EggThrones x = Due.toldOf("p" + places + " 0 30;" + "e0 1;".repeat(wishes.length));
            for (int e = 0; e < wishes.length; e++) {
                x.wish(e, wishes[e]);
            }
            int set = random.nextInt(1 << wishes.length);
            int[] best = null;
            int fewest = Integer.MAX_VALUE;
            for (int number = 0; number < Math.pow(places, Integer.bitCount(set)); number++) {
                int[] way = wayOf(number, places, set, wishes.length);
                int minutes = minutesOf(way, wishes);
                if (minutes < fewest) {
                    fewest = minutes;
                    best = way;
                }
            }
            due.is("the fewest MINUTES", x.allBoiled(set, Due.NONE), fewest);
            for (int e = 0; e < wishes.length; e++) {
                due.is("the place of " + e, x.allBoiled(set, e), best[e]);
            }
        }
    }

    private static int[] wayOf(int number, int places, int set, int eggs) {
        int[] way = new int[eggs];
        int rest = number;
        for (int e = eggs - 1; e >= 0; e--) {
            boolean isOfIt = (set >> e & 1) == 1;
            way[e] = isOfIt ? rest % places : Due.NONE;
            rest = isOfIt ? rest / places : rest;
        }
        return way;
    }

    private static int minutesOf(int[] way, int[] wishes) {
        int[] sums = new int[3];
        for (int e = 0; e < way.length; e++) {
            if (way[e] != Due.NONE) {
                sums[way[e]] += wishes[e];
            }
        }
        return Math.max(sums[0], Math.max(sums[1], sums[2]));
    }

    /** A table whose eggs are out or not, as drawn, as hard as drawn. */
    private static EggThrones drawn(Random random, int toast) {
        StringBuilder text = new StringBuilder("p3 " + toast + " 30;");
        int eggs = 1 + random.nextInt(7);
        for (int e = 0; e < eggs; e++) {
            text.append('e').append(random.nextInt(31)).append(' ').append(1 + random.nextInt(5)).append(';');
        }
        for (int m = random.nextInt(6); m > 0; m--) {
            int softest = random.nextInt(100);
            text.append('m').append(softest).append(' ').append(softest + random.nextInt(100 - softest)).append(';');
        }
        EggThrones x = Due.toldOf(text.toString());
        for (int e = 0; e < eggs; e++) {
            if (random.nextInt(6) > 0) {
                Due.boil(x, e, 1 + random.nextInt(11));
            }
        }
        return x;
    }

    /** What egg(e, what) answers of each EGG: asked once, as an object has 512 calls. */
    private static int[] ofEach(EggThrones x, int what) {
        int[] answers = new int[x.told(3)];
        for (int e = 0; e < answers.length; e++) {
            answers[e] = x.egg(e, what);
        }
        return answers;
    }

    /** A SET is a number: counted up, the least comes first. */
    static void dynasty(Due due) {
        Random random = new Random(18);
        for (int round = 0; round < ROUNDS; round++) {
            EggThrones x = drawn(random, random.nextInt(100));
            int[] states = ofEach(x, 2);
            int[] reigns = ofEach(x, 5);
            int soldiers = x.told(1);
            int[] best = {0, 0, 0};
            for (int set = 1; set < 1 << states.length; set++) {
                int many = 0;
                int minutes = 0;
                for (int e = 0; e < states.length; e++) {
                    boolean isOfIt = (set >> e & 1) == 1;
                    many += isOfIt ? 1 : 0;
                    minutes += isOfIt ? states[e] == 2 ? reigns[e] : 1000 : 0;
                }
                if (minutes * 2 <= soldiers && (many > best[0] || many == best[0] && minutes > best[1])) {
                    best = new int[] {many, minutes, set};
                }
            }
            for (int what = 0; what <= 2; what++) {
                due.is("dynasty(" + what + ")", x.dynasty(what), best[what]);
            }
        }
    }

    /** A way is a number whose figures are the EGGS, EATER 0's first, 7 for nobody's: so it comes last. */
    static void liked(Due due) {
        Random random = new Random(19);
        for (int round = 0; round < ROUNDS; round++) {
            EggThrones x = drawn(random, 0);
            int[] states = ofEach(x, 2);
            int[] hard = ofEach(x, 4);
            int eaters = x.told(4);
            boolean[][] likes = new boolean[eaters][8];
            for (int m = 0; m < eaters; m++) {
                int softest = x.eater(m, 0);
                int hardest = x.eater(m, 1);
                for (int e = 0; e < states.length; e++) {
                    likes[m][e] = states[e] == 2 && hard[e] >= softest && hard[e] <= hardest;
                }
            }
            int most = -1;
            int best = 0;
            for (int way = 0; way < 1 << 3 * eaters; way++) {
                int many = pairsOf(way, likes);
                if (many > most) {
                    most = many;
                    best = way;
                }
            }
            due.is("how many are LIKED", x.liked(Due.NONE), most);
            for (int m = 0; m < eaters; m++) {
                int e = best >> 3 * (eaters - 1 - m) & 7;
                due.is("the EGG of " + m, x.liked(m), e == 7 ? Due.NONE : e);
            }
        }
    }

    /** How many have an EGG by the way; -1 if one is given twice, or to one who does not like it. */
    private static int pairsOf(int way, boolean[][] likes) {
        int given = 0;
        int many = 0;
        for (int m = 0; m < likes.length; m++) {
            int e = way >> 3 * (likes.length - 1 - m) & 7;
            if (e < 7) {
                if (!likes[m][e] || (given >> e & 1) == 1) {
                    return -1;
                }
                given |= 1 << e;
                many++;
            }
        }
        return many;
    }

    /** Spoon by spoon, one EATER after the other. */
    static void goose(Due due) {
        for (int eaters = 1; eaters <= 5; eaters++) {
            int[] gets = new int[eaters];
            for (int n = 0; n <= 999; n++) {
                EggThrones x = Due.toldOf("p1 0 1;" + "m0 1;".repeat(eaters));
                for (int m = 0; m < eaters; m++) {
                    due.is(n + " spoons to " + eaters + ", eater " + m, x.goose(n, m), gets[m]);
                }
                gets[n % eaters]++;
            }
        }
    }
}
