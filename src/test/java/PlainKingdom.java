import java.util.ArrayDeque;
import java.util.ArrayList;
import java.util.Comparator;
import java.util.Deque;
import java.util.HashMap;
import java.util.List;
import java.util.Map;
import java.util.TreeMap;

/**
 * The document said a second time, by brute force and with the whole library, to be held against
 * EggThrones in runs of random calls. It shares nothing with it, so that a slip in one shows.
 */
final class PlainKingdom {
    static final int NONE = -1;

    /** What a refused call answers, thrown so that nothing behind it is done. */
    static final class Refused extends RuntimeException {
        private static final long serialVersionUID = 1L;
        final int answer;

        Refused(int answer) {
            this.answer = answer;
        }
    }

    enum Is { BOX, PAN, OUT, KING, SCRAPED, CRACKED }

    record Egg(int age, int size) { }

    record Eater(int low, int high) { }

    record Token(int at, String letters) { }

    record Fault(int at, int number) { }

    record Entry(int egg, int is) { }

    record Clue(int test, int answer) { }

    record Image(Scene scene, long seed) { }

    static final class Scene {
        List<Is> is = new ArrayList<>();
        List<Integer> boiled = new ArrayList<>();
        int king = NONE;
        int left;
        int soldiers;
        int minutes;
        int reigned;
        int scraped;

        Scene copy() {
            Scene other = new Scene();
            other.is.addAll(is);
            other.boiled.addAll(boiled);
            other.king = king;
            other.left = left;
            other.soldiers = soldiers;
            other.minutes = minutes;
            other.reigned = reigned;
            other.scraped = scraped;
            return other;
        }
    }

    String text = "";
    int fault = NONE;
    int[] pan = {0, 0, 0};
    List<Egg> eggs = new ArrayList<>();
    List<Eater> eaters = new ArrayList<>();
    Map<Integer, Integer> wishes = new HashMap<>();
    Scene scene = new Scene();
    Deque<Scene> past = new ArrayDeque<>();
    Map<Integer, Image> images = new HashMap<>();
    List<Clue> clues = new ArrayList<>();
    List<Entry> book = new ArrayList<>();
    long seed;

    private static void refuseIf(boolean is, int answer) {
        if (is) {
            throw new Refused(answer);
        }
    }

    private static void bounds(int number, int least, int most) {
        refuseIf(number < least || number > most, Due.OUTSIDE);
    }

    private void known(int e) {
        refuseIf(e < 0 || e >= eggs.size(), Due.UNKNOWN);
    }

    private void knownEater(int m) {
        refuseIf(m < 0 || m >= eaters.size(), Due.UNKNOWN);
    }

    private void laid() {
        refuseIf(pan[0] == 0, Due.NOT);
    }

    int feed(int letter) {
        bounds(letter, 0, 255);
        refuseIf(text.length() == 240, Due.FULL);
        text += (char) letter;
        return text.length();
    }

    private static List<Token> tokens(String text) {
        List<Token> all = new ArrayList<>();
        java.util.regex.Matcher m = java.util.regex.Pattern.compile("[0-9]+|[^ ]", java.util.regex.Pattern.DOTALL).matcher(text);
        while (m.find()) {
            all.add(new Token(m.start(), m.group()));
        }
        all.add(new Token(text.length(), ""));
        return all;
    }

    /** Numbers of a clause, with the fault of the first token that has one. */
    private static Fault clauseFault(List<Token> all, int from, int[][] bounds, List<Integer> numbers) {
        for (int i = 0; i < bounds.length; i++) {
            Token t = all.get(from + i);
            if (!t.letters().matches("[0-9]+")) {
                return new Fault(t.at(), 1);
            }
            if (t.letters().length() > 3) {
                return new Fault(t.at(), 2);
            }
            int value = Integer.parseInt(t.letters());
            if (value < bounds[i][0] || value > bounds[i][1]) {
                return new Fault(t.at(), 2);
            }
            numbers.add(value);
        }
        Token last = all.get(from + bounds.length);
        return last.letters().equals(";") ? null : new Fault(last.at(), 1);
    }

    private static Fault read(String text, int[] pan, List<Egg> eggs, List<Eater> eaters) {
        List<Token> all = tokens(text);
        Map<String, int[][]> words = Map.of("p", new int[][] {{1, 3}, {0, 99}, {1, 30}},
                "e", new int[][] {{0, 30}, {1, 5}}, "m", new int[][] {{0, 99}, {0, 99}});
        int i = 0;
        while (!all.get(i).letters().isEmpty()) {
            Token word = all.get(i);
            if (!words.containsKey(word.letters()) || i == 0 && !word.letters().equals("p")) {
                return new Fault(word.at(), 1);
            }
            boolean tooMany = switch (word.letters()) {
                case "p" -> i > 0;
                case "e" -> eggs.size() == 7;
                default -> eaters.size() == 5;
            };
            if (tooMany) {
                return new Fault(word.at(), 3);
            }
            int[][] bounds = words.get(word.letters());
            List<Integer> n = new ArrayList<>();
            Fault fault = clauseFault(all, i + 1, bounds, n);
            if (word.letters().equals("m") && n.size() == 2 && n.get(1) < n.get(0)) {
                return new Fault(all.get(i + 2).at(), 2);
            }
            if (fault != null) {
                return fault;
            }
            switch (word.letters()) {
                case "p" -> {
                    pan[0] = n.get(0);
                    pan[1] = n.get(1);
                    pan[2] = n.get(2);
                }
                case "e" -> eggs.add(new Egg(n.get(0), n.get(1)));
                default -> eaters.add(new Eater(n.get(0), n.get(1)));
            }
            i += bounds.length + 2;
        }
        return null;
    }

    int table() {
        int[] newPan = {0, 0, 0};
        List<Egg> newEggs = new ArrayList<>();
        List<Eater> newEaters = new ArrayList<>();
        Fault found = read(text, newPan, newEggs, newEaters);
        text = "";
        fault = found == null ? NONE : found.at();
        if (found != null) {
            return -10 - found.number();
        }
        pan = newPan;
        eggs = newEggs;
        eaters = newEaters;
        wishes.clear();
        scene = new Scene();
        scene.soldiers = pan[1];
        for (int e = 0; e < eggs.size(); e++) {
            scene.is.add(Is.BOX);
            scene.boiled.add(0);
        }
        past.clear();
        images.clear();
        clues.clear();
        book.clear();
        return eggs.size();
    }

    private int hard(int e, int boiled) {
        int hard = boiled * 10 + eggs.get(e).age() / 3 - eggs.get(e).size() * 5;
        return hard < 0 ? 0 : hard > 99 ? 99 : hard;
    }

    private int hard(int e) {
        return hard(e, scene.boiled.get(e));
    }

    private int reign(int e, int boiled) {
        return eggs.get(e).size() + hard(e, boiled) / 10 + 1;
    }

    private int reign(int e) {
        return reign(e, scene.boiled.get(e));
    }

    private List<Integer> those(Is is) {
        List<Integer> list = new ArrayList<>();
        for (int e = 0; e < eggs.size(); e++) {
            if (scene.is.get(e) == is) {
                list.add(e);
            }
        }
        return list;
    }

    private static int set(List<Integer> list) {
        return list.stream().mapToInt(e -> 1 << e).sum();
    }

    int told(int what) {
        bounds(what, 0, 17);
        List<Integer> pretenders = those(Is.OUT);
        pretenders.removeIf(e -> hard(e) > 0);
        int heir = those(Is.OUT).stream()
                .min(Comparator.comparingInt((Integer e) -> -reign(e)).thenComparing(e -> e)).orElse(NONE);
        int[] all = {pan[0], scene.soldiers, pan[2], eggs.size(), eaters.size(), text.length(), scene.minutes,
            scene.king, scene.left, scene.reigned, scene.scraped, set(those(Is.PAN)), set(those(Is.OUT)),
            set(pretenders), heir, clues.size(), book.size(), past.size()};
        return all[what];
    }

    int egg(int e, int what) {
        known(e);
        bounds(what, 0, 6);
        int[] all = {eggs.get(e).age(), eggs.get(e).size(), scene.is.get(e).ordinal(), scene.boiled.get(e),
            hard(e), reign(e), wishes.getOrDefault(e, 1)};
        return all[what];
    }

    int eater(int m, int what) {
        knownEater(m);
        bounds(what, 0, 1);
        return what == 0 ? eaters.get(m).low() : eaters.get(m).high();
    }

    private void remember() {
        past.addLast(scene.copy());
        if (past.size() > 20) {
            past.removeFirst();
        }
    }

    private void pass() {
        scene.minutes++;
        for (int e : those(Is.PAN)) {
            scene.boiled.set(e, scene.boiled.get(e) + 1);
            if (scene.boiled.get(e) > pan[2]) {
                scene.is.set(e, Is.CRACKED);
            }
        }
        if (scene.king == NONE) {
            return;
        }
        Is next = Is.KING;
        if (scene.soldiers < 2) {
            next = Is.BOX;
        } else {
            scene.soldiers -= 2;
            scene.reigned++;
            scene.left--;
            next = scene.left == 0 ? Is.SCRAPED : Is.KING;
        }
        scene.is.set(scene.king, next);
        scene.scraped += next == Is.SCRAPED ? 1 : 0;
        if (next != Is.KING) {
            scene.king = NONE;
            scene.left = 0;
        }
    }

    private void minutesAllowed(int n) {
        bounds(n, 1, 60);
        laid();
        refuseIf(scene.minutes > 9000, Due.FULL);
    }

    int minute(int n) {
        minutesAllowed(n);
        remember();
        for (int i = 0; i < n; i++) {
            pass();
        }
        return scene.minutes;
    }

    /** 0 PUT, 1 TAKEN out, 2 CROWNED: whether it can be. */
    private boolean can(int act, int e) {
        Is is = scene.is.get(e);
        return switch (act) {
            case 0 -> (is == Is.BOX || is == Is.OUT) && those(Is.PAN).size() < pan[0];
            case 1 -> is == Is.PAN;
            default -> is == Is.OUT && scene.king == NONE;
        };
    }

    private void act(int act, int e) {
        scene.is.set(e, new Is[] {Is.PAN, Is.OUT, Is.KING}[act]);
        if (act == 2) {
            scene.king = e;
            scene.left = reign(e);
        }
    }

    private void deed(int act, int e) {
        known(e);
        refuseIf(!can(act, e), Due.NOT);
        remember();
        act(act, e);
    }

    int put(int e) {
        deed(0, e);
        return those(Is.PAN).size();
    }

    int takeOut(int e) {
        deed(1, e);
        return hard(e);
    }

    int crown(int e) {
        deed(2, e);
        return reign(e);
    }

    int cutToast(int many) {
        bounds(many, 1, 99);
        laid();
        remember();
        scene.soldiers = scene.soldiers + many > 999 ? 999 : scene.soldiers + many;
        return scene.soldiers;
    }

    private int draw(int n) {
        seed = (seed * 1103515245L + 12345L) % (1L << 31);
        return (int) (seed / 65536 % n);
    }

    int drift(int n) {
        minutesAllowed(n);
        remember();
        for (int i = 0; i < n; i++) {
            if (!eggs.isEmpty()) {
                int e = draw(eggs.size());
                int act = draw(3);
                if (can(act, e)) {
                    act(act, e);
                }
            }
            pass();
        }
        return scene.reigned;
    }

    int undo() {
        refuseIf(past.isEmpty(), Due.NOT);
        scene = past.removeLast();
        return past.size();
    }

    int wish(int e, int m) {
        known(e);
        bounds(m, 1, pan[2]);
        Integer was = wishes.put(e, m);
        return was == null ? 1 : was;
    }

    int needs(int e, int minutes) {
        known(e);
        bounds(minutes, 1, 99);
        for (int boiled = 0; boiled <= pan[2]; boiled++) {
            if (reign(e, boiled) >= minutes) {
                return boiled;
            }
        }
        return NONE;
    }

    int allBoiled(int set, int e) {
        refuseIf((set & ~((1 << eggs.size()) - 1)) != 0, Due.UNKNOWN);
        if (e != NONE) {
            known(e);
        }
        laid();
        List<Integer> members = new ArrayList<>();
        for (int k = 0; k < eggs.size(); k++) {
            if ((set & 1 << k) != 0) {
                members.add(k);
            }
        }
        int ways = (int) Math.pow(pan[0], members.size());
        int best = Integer.MAX_VALUE;
        Map<Integer, Integer> bestWay = new HashMap<>();
        for (int way = 0; way < ways; way++) {
            Map<Integer, Integer> places = new HashMap<>();
            int[] loads = new int[pan[0]];
            int rest = way;
            for (int k = members.size() - 1; k >= 0; k--) {
                int egg = members.get(k);
                places.put(egg, rest % pan[0]);
                loads[rest % pan[0]] += wishes.getOrDefault(egg, 1);
                rest /= pan[0];
            }
            int longest = java.util.Arrays.stream(loads).max().orElse(0);
            if (longest < best) {
                best = longest;
                bestWay = places;
            }
        }
        return e == NONE ? best : bestWay.getOrDefault(e, NONE);
    }

    int dynasty(int what) {
        bounds(what, 0, 2);
        int[] best = {0, 0, 0};
        for (int some = 127; some >= 0; some--) {
            int many = 0;
            int minutes = 0;
            boolean all = true;
            for (int e = 0; e < 7; e++) {
                if ((some & 1 << e) != 0) {
                    boolean out = those(Is.OUT).contains(e);
                    all &= out;
                    many++;
                    minutes += out ? reign(e) : 0;
                }
            }
            boolean better = many > best[0] || many == best[0] && minutes >= best[1];
            if (all && minutes * 2 <= scene.soldiers && better) {
                best = new int[] {many, minutes, some};
            }
        }
        return best[what];
    }

    private void share(int m, int[] given, List<int[]> best) {
        if (m == eaters.size()) {
            long many = java.util.Arrays.stream(given).filter(e -> e != NONE).count();
            if (best.isEmpty() || many > java.util.Arrays.stream(best.get(0)).filter(e -> e != NONE).count()) {
                best.clear();
                best.add(given.clone());
            }
            return;
        }
        for (int e : those(Is.OUT)) {
            boolean likes = hard(e) >= eaters.get(m).low() && hard(e) <= eaters.get(m).high();
            boolean free = true;
            for (int k = 0; k < m; k++) {
                free &= given[k] != e;
            }
            if (likes && free) {
                given[m] = e;
                share(m + 1, given, best);
            }
        }
        given[m] = NONE;
        share(m + 1, given, best);
    }

    int liked(int m) {
        if (m != NONE) {
            knownEater(m);
        }
        List<int[]> best = new ArrayList<>();
        share(0, new int[eaters.size()], best);
        return m == NONE ? (int) java.util.Arrays.stream(best.get(0)).filter(e -> e != NONE).count() : best.get(0)[m];
    }

    int goose(int n, int m) {
        knownEater(m);
        bounds(n, 0, 999);
        int[] gets = new int[eaters.size()];
        for (int spoon = 0; spoon < n; spoon++) {
            gets[spoon % gets.length]++;
        }
        return gets[m];
    }

    int whole(int n, int q) {
        bounds(n, 0, 60);
        bounds(q, 0, 100);
        long odds = 1_000_000_000L;
        for (int i = 0; i < n; i++) {
            odds = odds * (100 - q) / 100;
        }
        return (int) odds;
    }

    int see(int t, int a) {
        bounds(t, 1, 9);
        bounds(a, 0, 30);
        refuseIf(clues.size() == 6, Due.FULL);
        clues.add(new Clue(t, a));
        return clues.size();
    }

    private List<Integer> fitting() {
        List<Integer> list = new ArrayList<>();
        for (int age = 0; age <= 30; age++) {
            int a = age;
            if (clues.stream().allMatch(c -> a / c.test() == c.answer())) {
                list.add(age);
            }
        }
        return list;
    }

    int ages() {
        return set(fitting());
    }

    int testNext() {
        List<Integer> list = fitting();
        int best = NONE;
        int least = list.size();
        for (int t = 1; t <= 9; t++) {
            Map<Integer, Integer> parts = new TreeMap<>();
            for (int age : list) {
                parts.merge(age / t, 1, Integer::sum);
            }
            int greatest = parts.values().stream().mapToInt(v -> v).max().orElse(0);
            if (parts.size() > 1 && greatest < least) {
                least = greatest;
                best = t;
            }
        }
        return best;
    }

    int write(int e, int is) {
        known(e);
        bounds(is, 0, 5);
        refuseIf(book.size() == 15, Due.FULL);
        book.add(new Entry(e, is));
        return book.size();
    }

    int tear() {
        int had = clues.size() + book.size();
        clues.clear();
        book.clear();
        return had;
    }

    int judge() {
        for (int i = 0; i < book.size(); i++) {
            if (scene.is.get(book.get(i).egg()).ordinal() != book.get(i).is()) {
                return i;
            }
        }
        return NONE;
    }

    int seed(int v) {
        refuseIf(v < 0, Due.OUTSIDE);
        int was = (int) seed;
        seed = v;
        return was;
    }

    int keep(int i) {
        refuseIf(i != 0 && i != 1, Due.UNKNOWN);
        images.put(i, new Image(scene.copy(), seed));
        past.clear();
        return 1;
    }

    int goBack(int i) {
        refuseIf(i != 0 && i != 1, Due.UNKNOWN);
        refuseIf(!images.containsKey(i), Due.NOT);
        scene = images.get(i).scene().copy();
        seed = images.get(i).seed();
        past.clear();
        return 1;
    }
}
