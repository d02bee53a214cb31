/**
 * A breakfast table as a very small kingdom. What each call promises stands in the
 * document (../shared/DOC.md); words in capitals there are the words of this file.
 */
public final class EggThrones {
    public static final int NONE = -1, UNKNOWN = -1000000001, OUTSIDE = -1000000002, NOT = -1000000003, FULL = -1000000004;

    private static final int FINE = 0;

    private static final int MOST_LETTERS = 240;
    private static final int MOST_EGGS = 7;
    private static final int MOST_EATERS = 5;
    private static final int MOST_PLACES = 3;
    private static final int MOST_HARD = 99;
    private static final int MOST_AGE = 30;
    private static final int MOST_SOLDIERS = 999;
    private static final int MOST_MINUTES_AT_ONCE = 60;
    private static final int LAST_MINUTE_TO_START = 9000;
    private static final int MOST_UNDONE = 20;
    private static final int MOST_IMAGES = 2;
    private static final int MOST_SEEN = 6;
    private static final int MOST_TEST = 9;
    private static final int MOST_ENTRIES = 15;
    private static final int BILLION = 1000000000;

    private static final int IN_BOX = 0;
    private static final int IN_PAN = 1;
    private static final int IS_OUT = 2;
    private static final int IS_KING = 3;
    private static final int IS_SCRAPED = 4;
    private static final int IS_CRACKED = 5;

    private final Text text;
    private final Table laid;
    private final Table draft;
    private final Morning now;
    private final Past past;
    private final Images images;
    private final Clues clues;
    private final Book book;
    private final Boiling boiling;
    private final Succession succession;
    private final Sharing sharing;
    private int latestFaultAt;
    private int drawSeed;

    public EggThrones() {
        Table table = new Table();
        text = new Text();
        laid = table;
        draft = new Table();
        now = new Morning(table);
        past = new Past();
        images = new Images();
        clues = new Clues();
        book = new Book();
        boiling = new Boiling();
        succession = new Succession();
        sharing = new Sharing();
        latestFaultAt = NONE;
        drawSeed = 0;
    }

    // ---- the table

    public int feed(int letter) {
        if (!isWithin(letter, 0, 255)) {
            return OUTSIDE;
        }
        return text.add(letter) ? text.length() : FULL;
    }

    public int table() {
        int faultNumber = text.readInto(draft);
        latestFaultAt = text.faultPlace();
        text.empty();
        if (faultNumber != FINE) {
            return -10 - faultNumber;
        }
        laid.become(draft);
        now.begin();
        past.forget();
        images.forget();
        clues.forget();
        book.forget();
        return laid.eggs;
    }

    public int fault() {
        return latestFaultAt;
    }

    public int told(int what) {
        switch (what) {
            case 0: return laid.places;
            case 1: return now.soldiers;
            case 2: return laid.limit;
            case 3: return laid.eggs;
            case 4: return laid.eaters;
            case 5: return text.length();
            case 6: return now.minutes;
            case 7: return now.king;
            case 8: return now.left;
            case 9: return now.reigned;
            case 10: return now.scraped;
            case 11: return now.setThatIs(IN_PAN);
            case 12: return now.setThatIs(IS_OUT);
            case 13: return now.pretenders();
            case 14: return now.heir();
            case 15: return clues.count;
            case 16: return book.count;
            case 17: return past.count;
            default: return OUTSIDE;
        }
    }

    public int egg(int e, int what) {
        if (!laid.hasEgg(e)) {
            return UNKNOWN;
        }
        switch (what) {
            case 0: return laid.ageOf(e);
            case 1: return laid.sizeOf(e);
            case 2: return now.stateOf(e);
            case 3: return now.boiledOf(e);
            case 4: return now.hardnessOf(e);
            case 5: return now.reignOf(e);
            case 6: return laid.wishOf(e);
            default: return OUTSIDE;
        }
    }

    public int eater(int m, int what) {
        if (!laid.hasEater(m)) {
            return UNKNOWN;
        }
        switch (what) {
            case 0: return laid.softestFor(m);
            case 1: return laid.hardestFor(m);
            default: return OUTSIDE;
        }
    }

    // ---- what is done

    public int minute(int n) {
        int refusal = refusalOfMinutes(n);
        if (refusal != FINE) {
            return refusal;
        }
        past.remember(now);
        for (int passed = 0; passed < n; passed++) {
            now.passMinute();
        }
        return now.minutes;
    }

    public int put(int e) {
        if (!laid.hasEgg(e)) {
            return UNKNOWN;
        }
        if (!now.canGoIn(e)) {
            return NOT;
        }
        past.remember(now);
        now.goIn(e);
        return now.howManyInPan();
    }

    public int takeOut(int e) {
        if (!laid.hasEgg(e)) {
            return UNKNOWN;
        }
        if (!now.canComeOut(e)) {
            return NOT;
        }
        past.remember(now);
        now.comeOut(e);
        return now.hardnessOf(e);
    }

    public int crown(int e) {
        if (!laid.hasEgg(e)) {
            return UNKNOWN;
        }
        if (!now.canBeKing(e)) {
            return NOT;
        }
        past.remember(now);
        now.becomeKing(e);
        return now.left;
    }

    public int cutToast(int many) {
        if (!isWithin(many, 1, 99)) {
            return OUTSIDE;
        }
        if (!laid.isLaid()) {
            return NOT;
        }
        past.remember(now);
        now.soldiers = Math.min(MOST_SOLDIERS, now.soldiers + many);
        return now.soldiers;
    }

    public int drift(int n) {
        int refusal = refusalOfMinutes(n);
        if (refusal != FINE) {
            return refusal;
        }
        past.remember(now);
        for (int passed = 0; passed < n; passed++) {
            actByDraws();
            now.passMinute();
        }
        return now.reigned;
    }

    public int undo() {
        return past.bringBack(now) ? past.count : NOT;
    }

    public int wish(int e, int m) {
        if (!laid.hasEgg(e)) {
            return UNKNOWN;
        }
        if (!isWithin(m, 1, laid.limit)) {
            return OUTSIDE;
        }
        int before = laid.wishOf(e);
        laid.setWish(e, m);
        return before;
    }

    // ---- tried

    public int needs(int e, int minutes) {
        if (!laid.hasEgg(e)) {
            return UNKNOWN;
        }
        if (!isWithin(minutes, 1, 99)) {
            return OUTSIDE;
        }
        for (int boiled = 0; boiled <= laid.limit; boiled++) {
            if (laid.reign(e, boiled) >= minutes) {
                return boiled;
            }
        }
        return NONE;
    }

    public int allBoiled(int set, int e) {
        boolean isForAll = e == NONE;
        if (!laid.hasEggs(set) || !(isForAll || laid.hasEgg(e))) {
            return UNKNOWN;
        }
        if (!laid.isLaid()) {
            return NOT;
        }
        boiling.tryAll(laid, set);
        return isForAll ? boiling.fewest() : boiling.placeOf(e);
    }

    public int dynasty(int what) {
        if (!isWithin(what, 0, 2)) {
            return OUTSIDE;
        }
        succession.tryAll(now);
        switch (what) {
            case 0: return succession.kings;
            case 1: return succession.minutes;
            default: return succession.set;
        }
    }

    public int liked(int m) {
        boolean isForAll = m == NONE;
        if (!isForAll && !laid.hasEater(m)) {
            return UNKNOWN;
        }
        sharing.ask(laid, now);
        return isForAll ? sharing.most() : sharing.eggFor(m);
    }

    public int goose(int n, int m) {
        if (!laid.hasEater(m) || laid.eaters <= 0) {
            return UNKNOWN;
        }
        if (!isWithin(n, 0, 999)) {
            return OUTSIDE;
        }
        int leftOver = n % laid.eaters;
        return n / laid.eaters + (m < leftOver ? 1 : 0);
    }

    public int whole(int n, int q) {
        if (!isWithin(n, 0, 60) || !isWithin(q, 0, 100)) {
            return OUTSIDE;
        }
        long odds = BILLION;
        for (int i = 0; i < n; i++) {
            odds = odds * (100 - q) / 100;
        }
        return (int) odds;
    }

    // ---- what is seen

    public int see(int t, int a) {
        if (!isWithin(t, 1, MOST_TEST) || !isWithin(a, 0, MOST_AGE)) {
            return OUTSIDE;
        }
        return clues.add(t, a) ? clues.count : FULL;
    }

    public int ages() {
        return clues.fittingAges();
    }

    public int testNext() {
        return clues.bestTest();
    }

    public int write(int e, int is) {
        if (!laid.hasEgg(e)) {
            return UNKNOWN;
        }
        if (!isWithin(is, IN_BOX, IS_CRACKED)) {
            return OUTSIDE;
        }
        return book.add(e, is) ? book.count : FULL;
    }

    public int tear() {
        int had = clues.count + book.count;
        clues.forget();
        book.forget();
        return had;
    }

    public int judge() {
        return book.firstWrong(now);
    }

    // ---- draws, images

    public int seed(int v) {
        if (v < 0) {
            return OUTSIDE;
        }
        int before = drawSeed;
        drawSeed = v;
        return before;
    }

    public int keep(int i) {
        if (!isWithin(i, 0, MOST_IMAGES - 1)) {
            return UNKNOWN;
        }
        images.take(i, now, drawSeed);
        past.forget();
        return 1;
    }

    public int goBack(int i) {
        if (!isWithin(i, 0, MOST_IMAGES - 1)) {
            return UNKNOWN;
        }
        if (!images.has(i)) {
            return NOT;
        }
        images.show(i, now);
        drawSeed = images.seedOf(i);
        past.forget();
        return 1;
    }

    private static boolean isWithin(int number, int least, int most) {
        return number >= least && number <= most;
    }

    private int refusalOfMinutes(int n) {
        if (!isWithin(n, 1, MOST_MINUTES_AT_ONCE)) {
            return OUTSIDE;
        }
        if (!laid.isLaid()) {
            return NOT;
        }
        return now.minutes > LAST_MINUTE_TO_START ? FULL : FINE;
    }

    private void actByDraws() {
        if (laid.eggs <= 0) {
            return;
        }
        int e = draw(laid.eggs);
        int act = draw(3);
        if (act == 0 && now.canGoIn(e)) {
            now.goIn(e);
        } else if (act == 1 && now.canComeOut(e)) {
            now.comeOut(e);
        } else if (act == 2 && now.canBeKing(e)) {
            now.becomeKing(e);
        }
    }

    private int draw(int n) {
        drawSeed = (int) ((drawSeed * 1103515245L + 12345L) & 0x7fffffffL);
        return n > 0 ? drawSeed / 65536 % n : 0;
    }

    /** THE TEXT as it is fed, and the reading of it up to its first FAULT. */
    static final class Text {
        private static final int END = -1;
        private static final int CANNOT_STAND = 1;
        private static final int BAD_NUMBER = 2;
        private static final int ONE_TOO_MANY = 3;
        private static final int MOST_FIGURES = 3;

        private final int[] letters;
        private int count;
        private int at;
        private int faultNumber;
        private int faultAt;

        Text() {
            letters = new int[MOST_LETTERS];
            count = 0;
            at = 0;
            faultNumber = FINE;
            faultAt = NONE;
        }

        int length() {
            return count;
        }

        void empty() {
            count = 0;
        }

        int faultPlace() {
            return faultAt;
        }

        boolean add(int letter) {
            if (count < 0 || count >= MOST_LETTERS) {
                return false;
            }
            letters[count] = letter;
            count++;
            return true;
        }

        /** The number of the first FAULT, or FINE: what the table holds is of use only then. */
        int readInto(Table table) {
            table.clear();
            at = 0;
            faultNumber = FINE;
            faultAt = NONE;
            // a clause is looked for only where a letter is: blanks alone tell no TABLE, as no letters do
            for (int i = 0; i < MOST_LETTERS && faultNumber == FINE && skipBlanks() != END; i++) {
                readClause(table);
            }
            return faultNumber;
        }

        private void readClause(Table table) {
            int word = skipBlanks();
            if (word != 'p' && !table.isLaid()) {
                find(CANNOT_STAND, at);
            } else if (word == 'p') {
                readPan(table);
            } else if (word == 'e') {
                readEgg(table);
            } else if (word == 'm') {
                readEater(table);
            } else {
                find(CANNOT_STAND, at);
            }
        }

        private void readPan(Table table) {
            if (table.isLaid()) {
                find(ONE_TOO_MANY, at);
                return;
            }
            at++;
            int places = readNumber(1, MOST_PLACES);
            int toast = readNumber(0, 99);
            int limit = readNumber(1, 30);
            readSemicolon();
            if (faultNumber == FINE) {
                table.layPan(places, toast, limit);
            }
        }

        private void readEgg(Table table) {
            if (table.eggs >= MOST_EGGS) {
                find(ONE_TOO_MANY, at);
                return;
            }
            at++;
            int age = readNumber(0, MOST_AGE);
            int size = readNumber(1, 5);
            readSemicolon();
            if (faultNumber == FINE) {
                table.addEgg(age, size);
            }
        }

        private void readEater(Table table) {
            if (table.eaters >= MOST_EATERS) {
                find(ONE_TOO_MANY, at);
                return;
            }
            at++;
            int softest = readNumber(0, MOST_HARD);
            int hardest = readNumber(softest, MOST_HARD);
            readSemicolon();
            if (faultNumber == FINE) {
                table.addEater(softest, hardest);
            }
        }

        private int readNumber(int least, int most) {
            if (faultNumber != FINE) {
                return 0;
            }
            int letter = skipBlanks();
            int first = at;
            int figures = 0;
            int value = 0;
            while (figures < MOST_LETTERS && isFigure(letter)) {
                // figures past the third are a fault already: not adding them keeps the value small
                value = figures < MOST_FIGURES ? value * 10 + letter - '0' : value;
                figures++;
                at++;
                letter = letterAt(at);
            }
            if (figures == 0) {
                find(CANNOT_STAND, first);
            } else if (figures > MOST_FIGURES || !isWithin(value, least, most)) {
                find(BAD_NUMBER, first);
            }
            return value;
        }

        private void readSemicolon() {
            if (faultNumber != FINE) {
                return;
            }
            if (skipBlanks() == ';') {
                at++;
            } else {
                find(CANNOT_STAND, at);
            }
        }

        private void find(int number, int place) {
            faultNumber = number;
            faultAt = place;
        }

        private int skipBlanks() {
            while (at < count && letterAt(at) == ' ') {
                at++;
            }
            return letterAt(at);
        }

        private int letterAt(int place) {
            return place >= 0 && place < count && place < MOST_LETTERS ? letters[place] : END;
        }

        private static boolean isFigure(int letter) {
            return letter >= '0' && letter <= '9';
        }
    }

    /** THE TABLE as it was told, and the WISHES, which minutes and images do not touch. */
    static final class Table {
        private int places;
        private int toast;
        private int limit;
        private int eggs;
        private int eaters;
        private final int[] ages;
        private final int[] sizes;
        private final int[] wishes;
        private final int[] softest;
        private final int[] hardest;

        Table() {
            ages = new int[MOST_EGGS];
            sizes = new int[MOST_EGGS];
            wishes = new int[MOST_EGGS];
            softest = new int[MOST_EATERS];
            hardest = new int[MOST_EATERS];
            places = 0;
            toast = 0;
            limit = 0;
            eggs = 0;
            eaters = 0;
        }

        void clear() {
            places = 0;
            toast = 0;
            limit = 0;
            eggs = 0;
            eaters = 0;
        }

        void layPan(int places, int toast, int limit) {
            this.places = places;
            this.toast = toast;
            this.limit = limit;
        }

        void addEgg(int age, int size) {
            if (eggs >= 0 && eggs < MOST_EGGS) {
                ages[eggs] = age;
                sizes[eggs] = size;
                wishes[eggs] = 1;
                eggs++;
            }
        }

        void addEater(int from, int to) {
            if (eaters >= 0 && eaters < MOST_EATERS) {
                softest[eaters] = from;
                hardest[eaters] = to;
                eaters++;
            }
        }

        void become(Table other) {
            layPan(other.places, other.toast, other.limit);
            eggs = other.eggs;
            eaters = other.eaters;
            System.arraycopy(other.ages, 0, ages, 0, MOST_EGGS);
            System.arraycopy(other.sizes, 0, sizes, 0, MOST_EGGS);
            System.arraycopy(other.wishes, 0, wishes, 0, MOST_EGGS);
            System.arraycopy(other.softest, 0, softest, 0, MOST_EATERS);
            System.arraycopy(other.hardest, 0, hardest, 0, MOST_EATERS);
        }

        /** A PAN holds one EGG at least, so none means that there is no TABLE. */
        boolean isLaid() {
            return places > 0;
        }

        boolean hasEgg(int e) {
            return e >= 0 && e < eggs && e < MOST_EGGS;
        }

        boolean hasEggs(int set) {
            return set >= 0 && set >> Math.min(eggs, MOST_EGGS) == 0;
        }

        boolean hasEater(int m) {
            return m >= 0 && m < eaters && m < MOST_EATERS;
        }

        int ageOf(int e) {
            return hasEgg(e) ? ages[e] : 0;
        }

        int sizeOf(int e) {
            return hasEgg(e) ? sizes[e] : 0;
        }

        int wishOf(int e) {
            return hasEgg(e) ? wishes[e] : 0;
        }

        void setWish(int e, int minutes) {
            if (hasEgg(e)) {
                wishes[e] = minutes;
            }
        }

        int softestFor(int m) {
            return hasEater(m) ? softest[m] : 0;
        }

        int hardestFor(int m) {
            return hasEater(m) ? hardest[m] : 0;
        }

        int hardness(int e, int boiled) {
            if (!hasEgg(e)) {
                return 0;
            }
            int hard = 10 * boiled - 5 * sizes[e] + ages[e] / 3;
            return Math.max(0, Math.min(MOST_HARD, hard));
        }

        int reign(int e, int boiled) {
            return 1 + hardness(e, boiled) / 10 + sizeOf(e);
        }
    }

    /** All of section 2: what goes on at the TABLE, what can be undone and kept. */
    static final class Morning {
        private static final int ROW = 2 * MOST_EGGS + 6;

        private final Table table;
        private final int[] states;
        private final int[] boiled;
        private int king;
        private int left;
        private int soldiers;
        private int minutes;
        private int reigned;
        private int scraped;

        Morning(Table table) {
            this.table = table;
            states = new int[MOST_EGGS];
            boiled = new int[MOST_EGGS];
            king = NONE;
            left = 0;
            soldiers = 0;
            minutes = 0;
            reigned = 0;
            scraped = 0;
        }

        void begin() {
            for (int e = 0; e < MOST_EGGS; e++) {
                states[e] = IN_BOX;
                boiled[e] = 0;
            }
            king = NONE;
            left = 0;
            soldiers = table.toast;
            minutes = 0;
            reigned = 0;
            scraped = 0;
        }

        int stateOf(int e) {
            return table.hasEgg(e) ? states[e] : NONE;
        }

        int boiledOf(int e) {
            return table.hasEgg(e) ? boiled[e] : 0;
        }

        int hardnessOf(int e) {
            return table.hardness(e, boiledOf(e));
        }

        int reignOf(int e) {
            return table.reign(e, boiledOf(e));
        }

        int setThatIs(int state) {
            int set = 0;
            for (int e = 0; e < MOST_EGGS; e++) {
                set |= stateOf(e) == state ? 1 << e : 0;
            }
            return set;
        }

        int howManyInPan() {
            return Integer.bitCount(setThatIs(IN_PAN));
        }

        int pretenders() {
            int set = 0;
            for (int e = 0; e < MOST_EGGS; e++) {
                set |= stateOf(e) == IS_OUT && hardnessOf(e) == 0 ? 1 << e : 0;
            }
            return set;
        }

        int heir() {
            int heir = NONE;
            for (int e = 0; e < MOST_EGGS; e++) {
                if (stateOf(e) == IS_OUT && (heir == NONE || reignOf(e) > reignOf(heir))) {
                    heir = e;
                }
            }
            return heir;
        }

        boolean canGoIn(int e) {
            int state = stateOf(e);
            return (state == IN_BOX || state == IS_OUT) && howManyInPan() < table.places;
        }

        void goIn(int e) {
            setState(e, IN_PAN);
        }

        boolean canComeOut(int e) {
            return stateOf(e) == IN_PAN;
        }

        void comeOut(int e) {
            setState(e, IS_OUT);
        }

        boolean canBeKing(int e) {
            return stateOf(e) == IS_OUT && king == NONE;
        }

        void becomeKing(int e) {
            setState(e, IS_KING);
            king = e;
            left = reignOf(e);
        }

        void passMinute() {
            minutes++;
            for (int e = 0; e < MOST_EGGS; e++) {
                if (stateOf(e) == IN_PAN) {
                    boilOneMore(e);
                }
            }
            if (king != NONE) {
                passMinuteOfKing();
            }
        }

        private void boilOneMore(int e) {
            if (table.hasEgg(e)) {
                boiled[e]++;
                states[e] = boiled[e] > table.limit ? IS_CRACKED : IN_PAN;
            }
        }

        private void passMinuteOfKing() {
            if (soldiers < 2) {
                // he goes instead of reigning: no minute is his, so REIGNED stays
                endReign(IN_BOX);
                return;
            }
            soldiers -= 2;
            reigned++;
            left--;
            if (left <= 0) {
                scraped++;
                endReign(IS_SCRAPED);
            }
        }

        private void endReign(int state) {
            setState(king, state);
            king = NONE;
            left = 0;
        }

        private void setState(int e, int state) {
            if (table.hasEgg(e)) {
                states[e] = state;
            }
        }

        void saveTo(int[] rows, int from) {
            if (!isRow(rows, from)) {
                return;
            }
            System.arraycopy(states, 0, rows, from, MOST_EGGS);
            System.arraycopy(boiled, 0, rows, from + MOST_EGGS, MOST_EGGS);
            int rest = from + 2 * MOST_EGGS;
            rows[rest] = king;
            rows[rest + 1] = left;
            rows[rest + 2] = soldiers;
            rows[rest + 3] = minutes;
            rows[rest + 4] = reigned;
            rows[rest + 5] = scraped;
        }

        void loadFrom(int[] rows, int from) {
            if (!isRow(rows, from)) {
                return;
            }
            System.arraycopy(rows, from, states, 0, MOST_EGGS);
            System.arraycopy(rows, from + MOST_EGGS, boiled, 0, MOST_EGGS);
            int rest = from + 2 * MOST_EGGS;
            king = rows[rest];
            left = rows[rest + 1];
            soldiers = rows[rest + 2];
            minutes = rows[rest + 3];
            reigned = rows[rest + 4];
            scraped = rows[rest + 5];
        }

        private static boolean isRow(int[] rows, int from) {
            return rows != null && from >= 0 && from <= rows.length - ROW;
        }
    }

    /** What can be UNDONE: a ring of rows, so that the oldest gives way without any being moved. */
    static final class Past {
        private final int[] rows;
        private int oldest;
        private int count;

        Past() {
            rows = new int[MOST_UNDONE * Morning.ROW];
            oldest = 0;
            count = 0;
        }

        void forget() {
            oldest = 0;
            count = 0;
        }

        void remember(Morning morning) {
            int place = (oldest + count) % MOST_UNDONE;
            morning.saveTo(rows, place * Morning.ROW);
            if (count < MOST_UNDONE) {
                count++;
            } else {
                oldest = (oldest + 1) % MOST_UNDONE;
            }
        }

        boolean bringBack(Morning morning) {
            if (count <= 0) {
                return false;
            }
            count--;
            int place = (oldest + count) % MOST_UNDONE;
            morning.loadFrom(rows, place * Morning.ROW);
            return true;
        }
    }

    /** IMAGES: unlike what can be undone they hold THE SEED too. */
    static final class Images {
        private final int[] rows;
        private final int[] seeds;
        private final boolean[] taken;

        Images() {
            rows = new int[MOST_IMAGES * Morning.ROW];
            seeds = new int[MOST_IMAGES];
            taken = new boolean[MOST_IMAGES];
        }

        void forget() {
            for (int i = 0; i < MOST_IMAGES; i++) {
                taken[i] = false;
            }
        }

        boolean has(int i) {
            return i >= 0 && i < MOST_IMAGES && taken[i];
        }

        void take(int i, Morning morning, int seedNow) {
            if (i >= 0 && i < MOST_IMAGES) {
                morning.saveTo(rows, i * Morning.ROW);
                seeds[i] = seedNow;
                taken[i] = true;
            }
        }

        void show(int i, Morning morning) {
            if (has(i)) {
                morning.loadFrom(rows, i * Morning.ROW);
            }
        }

        int seedOf(int i) {
            return has(i) ? seeds[i] : 0;
        }
    }

    /** What is SEEN of one EGG of unknown age. */
    static final class Clues {
        private final int[] tests;
        private final int[] answers;
        private int count;

        Clues() {
            tests = new int[MOST_SEEN];
            answers = new int[MOST_SEEN];
            count = 0;
        }

        void forget() {
            count = 0;
        }

        boolean add(int test, int answer) {
            if (count < 0 || count >= MOST_SEEN) {
                return false;
            }
            tests[count] = test;
            answers[count] = answer;
            count++;
            return true;
        }

        int fittingAges() {
            int set = 0;
            for (int age = 0; age <= MOST_AGE; age++) {
                set |= fits(age) ? 1 << age : 0;
            }
            return set;
        }

        private boolean fits(int age) {
            for (int i = 0; i < count && i < MOST_SEEN; i++) {
                if (tests[i] <= 0 || age / tests[i] != answers[i]) {
                    return false;
                }
            }
            return true;
        }

        int bestTest() {
            int left = fittingAges();
            int best = NONE;
            int least = Integer.bitCount(left);
            for (int test = 1; test <= MOST_TEST; test++) {
                int greatest = greatestPart(left, test);
                if (greatest < least) {
                    least = greatest;
                    best = test;
                }
            }
            return best;
        }

        /** Ages that a test tells alike stand side by side, so a part is over once the answer is another. */
        private static int greatestPart(int set, int test) {
            int greatest = 0;
            int part = 0;
            for (int age = 0; age <= MOST_AGE; age++) {
                if (test <= 0 || age % test == 0) {
                    part = 0;
                }
                part += set >> age & 1;
                greatest = Math.max(greatest, part);
            }
            return greatest;
        }
    }

    /** THE BOOK. */
    static final class Book {
        private final int[] eggs;
        private final int[] states;
        private int count;

        Book() {
            eggs = new int[MOST_ENTRIES];
            states = new int[MOST_ENTRIES];
            count = 0;
        }

        void forget() {
            count = 0;
        }

        boolean add(int e, int state) {
            if (count < 0 || count >= MOST_ENTRIES) {
                return false;
            }
            eggs[count] = e;
            states[count] = state;
            count++;
            return true;
        }

        int firstWrong(Morning morning) {
            for (int i = 0; i < count && i < MOST_ENTRIES; i++) {
                if (morning.stateOf(eggs[i]) != states[i]) {
                    return i;
                }
            }
            return NONE;
        }
    }

    /** ALL BOILED: ways to share EGGS out among the places of the PAN, of which the best is kept. */
    static final class Boiling {
        private static final int ENDLESS = 1000000;

        private final int[] times;
        private final int[] loads;
        private final int[] way;
        private final int[] bestWay;
        private int places;
        private int least;

        Boiling() {
            times = new int[MOST_EGGS];
            loads = new int[MOST_PLACES];
            way = new int[MOST_EGGS];
            bestWay = new int[MOST_EGGS];
            places = 0;
            least = 0;
        }

        int fewest() {
            return least;
        }

        int placeOf(int e) {
            return e >= 0 && e < MOST_EGGS ? bestWay[e] : NONE;
        }

        void tryAll(Table table, int set) {
            places = Math.min(table.places, MOST_PLACES);
            least = ENDLESS;
            for (int e = 0; e < MOST_EGGS; e++) {
                times[e] = (set >> e & 1) == 1 ? table.wishOf(e) : 0;
                way[e] = NONE;
            }
            for (int place = 0; place < MOST_PLACES; place++) {
                loads[place] = 0;
            }
            tryFrom(this, 0);
        }

        /** Ways come in the order in which like ones are preferred, so only a better one takes over. */
        private static void tryFrom(Boiling b, int e) {
            if (e < 0 || e >= MOST_EGGS) {
                b.takeOver();
                return;
            }
            if (b.times[e] == 0) {
                tryFrom(b, e + 1);
                return;
            }
            for (int place = 0; place < b.places && place < MOST_PLACES; place++) {
                int before = b.loads[place];
                if (before + b.times[e] < b.least) {
                    b.loads[place] = before + b.times[e];
                    b.way[e] = place;
                    tryFrom(b, e + 1);
                    b.loads[place] = before;
                }
            }
        }

        private void takeOver() {
            int longest = 0;
            for (int place = 0; place < MOST_PLACES; place++) {
                longest = Math.max(longest, loads[place]);
            }
            if (longest < least) {
                least = longest;
                System.arraycopy(way, 0, bestWay, 0, MOST_EGGS);
            }
        }
    }

    /** DYNASTY: all SETS of EGGS that are OUT, the least first, so only a better one takes over. */
    static final class Succession {
        private int kings;
        private int minutes;
        private int set;

        Succession() {
            kings = 0;
            minutes = 0;
            set = 0;
        }

        void tryAll(Morning morning) {
            kings = 0;
            minutes = 0;
            set = 0;
            int waiting = morning.setThatIs(IS_OUT);
            for (int some = 1; some < 1 << MOST_EGGS; some++) {
                if ((some & ~waiting) == 0) {
                    weigh(morning, some);
                }
            }
        }

        private void weigh(Morning morning, int some) {
            int many = Integer.bitCount(some);
            int reigns = 0;
            for (int e = 0; e < MOST_EGGS; e++) {
                reigns += (some >> e & 1) == 1 ? morning.reignOf(e) : 0;
            }
            boolean isFed = 2 * reigns <= morning.soldiers;
            if (isFed && (many > kings || many == kings && reigns > minutes)) {
                kings = many;
                minutes = reigns;
                set = some;
            }
        }
    }

    /** LIKED: EGGS that are OUT to EATERS. */
    static final class Sharing {
        private static final int ALL_EGGS = (1 << MOST_EGGS) - 1;

        private final int[] likings;

        Sharing() {
            likings = new int[MOST_EATERS];
        }

        void ask(Table table, Morning morning) {
            for (int m = 0; m < MOST_EATERS; m++) {
                likings[m] = table.hasEater(m) ? liking(table, morning, m) : 0;
            }
        }

        private static int liking(Table table, Morning morning, int m) {
            int set = 0;
            for (int e = 0; e < MOST_EGGS; e++) {
                boolean isMeant = morning.stateOf(e) == IS_OUT
                        && isWithin(morning.hardnessOf(e), table.softestFor(m), table.hardestFor(m));
                set |= isMeant ? 1 << e : 0;
            }
            return set;
        }

        int most() {
            return mostPairs(likings, 0, ALL_EGGS);
        }

        int eggFor(int eater) {
            int free = ALL_EGGS;
            int due = most();
            int given = NONE;
            for (int m = 0; m <= eater && m < MOST_EATERS; m++) {
                given = firstEgg(m, free, due);
                if (given != NONE) {
                    free &= ~(1 << given);
                    due--;
                }
            }
            return given;
        }

        /** The least EGG that an EATER can have while those behind him still make up what is due. */
        private int firstEgg(int m, int free, int due) {
            int choice = m >= 0 && m < MOST_EATERS ? likings[m] & free : 0;
            for (int e = 0; e < MOST_EGGS; e++) {
                boolean isChoice = (choice >> e & 1) == 1;
                if (isChoice && 1 + mostPairs(likings, m + 1, free & ~(1 << e)) == due) {
                    return e;
                }
            }
            return NONE;
        }

        private static int mostPairs(int[] likings, int m, int free) {
            if (m < 0 || m >= likings.length) {
                return 0;
            }
            int best = mostPairs(likings, m + 1, free);
            int choice = likings[m] & free;
            // nobody behind him can make up for more than one pair each: then no choice is better
            int bound = Math.min(likings.length - m, Integer.bitCount(free));
            for (int e = 0; e < MOST_EGGS && best < bound; e++) {
                if ((choice >> e & 1) == 1) {
                    best = Math.max(best, 1 + mostPairs(likings, m + 1, free & ~(1 << e)));
                }
            }
            return best;
        }
    }
}
