/** A garden state in which nobody may be sure of more than so many things: ../shared/DOC.md tells all of it. */
public final class PlantedDoubts {
    public static final int NONE = -1;

    private static final int HOUSES = 8;
    private static final int THINGS = 8;
    private static final int SETS = 256;
    private static final int SURE = 90;
    private static final int FIRST_DEGREE = 50;
    private static final int FULL = 100;
    private static final int TALLEST = 99;
    private static final int FIRST_HEIGHT = 10;
    private static final int MOST_TENDER = 9;
    private static final int MOST_STOCK = 5;
    private static final int THOUSAND = 1000;
    private static final int LAST_WEEK = 999;
    private static final int MOST_WEEKS = 60;
    private static final int MOST_WATERED_WEEKS = 30;
    private static final int MOST_WATERING = 40;
    private static final int MOST_ERRORS = 3;
    private static final int MOST_ROOM = 999;
    private static final int MOST_LINES = 16;
    private static final int MOST_WORKS = 12;
    private static final int MOST_NUMBER = 9999;
    private static final int BEES_HEIGHT = 50;
    private static final int BOOK_LINES = 150;
    private static final int BOOK_WIDTH = 4;
    private static final int MOST_TALKS = 12;
    private static final int TALK_WIDTH = 3;
    private static final int TAPE = 400;
    private static final int FED = 20;

    private static final int POTTED = 0;
    private static final int WEEDED = 1;
    private static final int WILTED = 2;
    private static final int FROZEN = 3;
    private static final int CARRIED = 4;
    private static final int BREACH = 5;

    private static final int REASONS = 0;
    private static final int LAW = 1;
    private static final int WORKS = 2;
    private static final int PLAN = 3;

    // The KEYWORDS of all texts, by number; each is followed by one blank. The first eight are what THE LAW may ask.
    private static final String WORDS = "height tender water degree thing week sures lines grow lower seed when or and not from gives clashes work sure doubts on pot of by weed tell to ";
    private static final int W_HEIGHT = 0;
    private static final int W_TENDER = 1;
    private static final int W_WATER = 2;
    private static final int W_DEGREE = 3;
    private static final int W_THING = 4;
    private static final int W_WEEK = 5;
    private static final int W_SURES = 6;
    private static final int W_LINES = 7;
    private static final int W_GROW = 8;
    private static final int W_LOWER = 9;
    private static final int W_SEED = 10;
    private static final int W_WHEN = 11;
    // These three stand in the order of how tightly they bind.
    private static final int W_OR = 12;
    private static final int W_AND = 13;
    private static final int W_NOT = 14;
    private static final int W_FROM = 15;
    private static final int W_GIVES = 16;
    private static final int W_CLASHES = 17;
    private static final int W_WORK = 18;
    private static final int W_SURE = 19;
    private static final int W_DOUBTS = 20;
    private static final int W_ON = 21;
    private static final int W_POT = 22;
    private static final int W_OF = 23;
    private static final int W_BY = 24;
    private static final int W_WEED = 25;
    private static final int W_TELL = 26;
    private static final int W_TO = 27;

    private static final String SIGNS = ";+-*/()<=>";
    private static final int S_END_OF_LINE = 32;
    private static final int S_PLUS = 33;
    private static final int S_MINUS = 34;
    private static final int S_TIMES = 35;
    private static final int S_PARTED = 36;
    private static final int S_OPEN = 37;
    private static final int S_CLOSE = 38;
    private static final int S_LESS = 39;
    private static final int S_EQUAL = 40;
    private static final int S_MORE = 41;
    private static final int T_NUMBER = 42;
    private static final int T_END = 43;
    private static final int T_BAD = 44;
    // In the code of THE LAW a NUMBER is this much more than it is, so that no sign or word is taken for it.
    private static final int C_NUMBER = 64;

    private final Garden now;
    private final Garden kept;
    private boolean hasImage;
    private final Season season;
    private final Season dream;
    private final Undos undos;
    private final Tape tape;
    private final Grammar grammar;
    private final Law law;
    private final Gifts gifts;
    private final Mind mind;
    private final Grounds grounds;

    public PlantedDoubts() {
        now = new Garden();
        kept = new Garden();
        hasImage = false;
        law = new Law();
        season = new Season(now, now.beds, law, true);
        dream = new Season(now, new Beds(), law, false);
        undos = new Undos();
        tape = new Tape();
        grammar = new Grammar(tape);
        gifts = new Gifts();
        mind = new Mind();
        grounds = new Grounds();
    }

    public int state(int v) {
        int was = now.beds.draws;
        undos.forget();
        now.beds.draws = v;
        return was;
    }

    public int house() {
        if (now.houses >= HOUSES) {
            return NONE;
        }
        undos.forget();
        now.houses++;
        return now.houses - 1;
    }

    public boolean set(int what, int who, int v) {
        if (what < 0 || what > 3 || v < 0 || v > mostOf(what) || (what == 3 && !isThing(who))) {
            return false;
        }
        undos.forget();
        if (what == 0) {
            now.most = v;
        } else if (what == 1) {
            now.frost = v;
        } else if (what == 2) {
            now.bees = v;
        } else {
            now.stock[who] = v;
        }
        return true;
    }

    private static int mostOf(int what) {
        if (what == 0) {
            return THINGS;
        }
        return what == 3 ? MOST_STOCK : THOUSAND;
    }

    public boolean line(int a, int b, boolean is) {
        if (!areTwo(a, b)) {
            return false;
        }
        undos.forget();
        now.join(a, b, is);
        return true;
    }

    public int feed(int a, int b, int c, int d, int e) {
        if (tape.length + FED > TAPE) {
            return NONE;
        }
        tape.add(a);
        tape.add(b);
        tape.add(c);
        tape.add(d);
        tape.add(e);
        return tape.length;
    }

    public boolean end(int n) {
        if (n < 0 || n > tape.length) {
            return false;
        }
        tape.length = n;
        return true;
    }

    public int text(int k) {
        boolean read = grammar.read(k, now.houses);
        tape.length = 0;
        if (!read) {
            return NONE;
        }
        if (k == REASONS || k == PLAN) {
            undos.forget();
        }
        Text told = now.told(k);
        told.copyFrom(grammar.draft);
        return told.lines;
    }

    public int fault(int what) {
        if (what == 0) {
            return grammar.fault;
        }
        return what == 1 ? grammar.place : NONE;
    }

    public boolean pot(int house, int thing, int tender) {
        if (!isHouse(house) || !isThing(thing) || tender < 0 || tender > MOST_TENDER || now.beds.hasPot(house)) {
            return false;
        }
        undos.keep(now.beds);
        season.plant(house, thing, tender);
        return true;
    }

    public boolean water(int house, int n) {
        if (!isHouse(house) || n < 1 || n > TALLEST || !now.beds.hasPot(house)) {
            return false;
        }
        undos.keep(now.beds);
        season.pour(house, n);
        return true;
    }

    public boolean weed(int house) {
        if (!isHouse(house) || !now.beds.hasPot(house)) {
            return false;
        }
        undos.keep(now.beds);
        season.lose(house, WEEDED);
        return true;
    }

    public boolean tell(int house, int thing, int degree) {
        if (!isHouse(house) || !isThing(thing) || degree < 0 || degree > FULL) {
            return false;
        }
        undos.keep(now.beds);
        now.beds.believe(house, thing, degree);
        return true;
    }

    public int weeks(int n) {
        if (n < 1 || n > MOST_WEEKS || now.beds.week + n > LAST_WEEK) {
            return NONE;
        }
        int breaches = 0;
        for (int i = 0; i < n; i++) {
            undos.keep(now.beds);
            breaches += season.pass();
        }
        return breaches;
    }

    public int of(int house, int what) {
        if (!isHouse(house)) {
            return NONE - 999;
        }
        Beds beds = now.beds;
        switch (what) {
            case 0:
                return beds.thing[house];
            case 1:
                return beds.height[house];
            case 2:
                return beds.tender[house];
            case 3:
                return beds.water[house];
            case 4:
                return beds.sureOf(house);
            case 5:
                return now.lines[house];
            case 6:
            case 7:
            case 8:
                return lawOf(house, what);
            default:
                return isThing(what - 10) ? beds.degreeOf(house, what - 10) : NONE - 999;
        }
    }

    private int lawOf(int house, int what) {
        if (!now.beds.hasPot(house)) {
            return NONE - 99;
        }
        law.observe(now, now.beds, house, now.beds.sures(house));
        if (what == 6) {
            return law.grows(now.law);
        }
        return what == 7 ? law.lowers(now.law) : law.seeds(now.law);
    }

    public int reason(int i, int what) {
        if (i < 0 || i >= now.reasons.lines || what < 0 || what > 2) {
            return NONE;
        }
        return now.reasons.at(i, what);
    }

    public int book(int i, int what) {
        if (i < 0 || i >= now.beds.leaves || what < 0 || what >= BOOK_WIDTH) {
            return NONE;
        }
        return now.book[i * BOOK_WIDTH + what];
    }

    public int first(int n, int what) {
        if (n < 1 || n > MOST_WEEKS || what < 0 || what > 2) {
            return NONE;
        }
        dream.fallAsleep();
        int house = NONE;
        int week = NONE;
        int all = 0;
        for (int i = 0; i < n; i++) {
            int over = dream.pass();
            if (over > 0 && all == 0) {
                house = dream.firstOver();
                week = now.beds.week + i;
            }
            all += over;
        }
        if (what == 2) {
            return all;
        }
        return what == 0 ? house : week;
    }

    public int gives(int what) {
        if (what != 0 && !isHouse(what - 10)) {
            return NONE;
        }
        if (!gifts.share(now)) {
            return NONE;
        }
        return what == 0 ? gifts.all : gifts.given[what - 10];
    }

    public int done() {
        return mind.worksDone(now);
    }

    public int struck(int house, int what) {
        if (!isHouse(house) || what < 0 || what > 1) {
            return NONE;
        }
        int set = mind.toStrike(now, house);
        return what == 1 ? set : now.beds.sumOf(house, set);
    }

    public int down(int house, int thing) {
        if (!isHouse(house) || !isThing(thing) || now.beds.degreeOf(house, thing) < SURE) {
            return NONE;
        }
        return mind.falls(now, house, thing);
    }

    public int by(int house, int thing) {
        if (!isHouse(house) || !isThing(thing)) {
            return NONE;
        }
        return grounds.flight(now, house, thing);
    }

    public int part(int a, int b) {
        if (!areTwo(a, b)) {
            return NONE;
        }
        return grounds.cut(now, a, b);
    }

    public int talk(int house, int thing, int how) {
        if (house == NONE) {
            now.talks = 0;
            return 0;
        }
        if (!isHouse(house) || !isThing(thing) || how < 0 || how > 1 || now.talks >= MOST_TALKS) {
            return NONE;
        }
        now.heard(house, thing, how);
        return now.talks;
    }

    public int fits(int house, int e) {
        if (!isHouse(house) || e < 0 || e > MOST_ERRORS) {
            return NONE;
        }
        return mind.countFits(now, house, e);
    }

    public int ask(int house, int e) {
        if (!isHouse(house) || e < 0 || e > MOST_ERRORS) {
            return NONE;
        }
        return mind.bestQuestion(now, house, e);
    }

    public int waters(int house, int n, int what) {
        if (!isHouse(house) || n < 1 || n > MOST_WATERED_WEEKS || what < 0 || what > 1 || !now.beds.hasPot(house)) {
            return NONE;
        }
        for (int i = 0; i <= MOST_WATERING; i++) {
            int each = what == 0 ? i : MOST_WATERING - i;
            if (dream.bears(house, n, each)) {
                return each;
            }
        }
        return NONE;
    }

    public int game(int what) {
        if (what < 0 || what > 1) {
            return NONE;
        }
        int house = grounds.winningPot(now);
        return what == 0 || house == NONE ? house : grounds.leftOf(now, house);
    }

    public int greenhouses(int c) {
        if (c < 1 || c > MOST_ROOM) {
            return NONE;
        }
        return grounds.fewest(now, c);
    }

    public boolean undo() {
        return undos.goBack(now.beds);
    }

    public boolean image(boolean taken) {
        if (taken) {
            kept.copyFrom(now);
            hasImage = true;
            return true;
        }
        if (!hasImage) {
            return false;
        }
        now.copyFrom(kept);
        undos.forget();
        return true;
    }

    public int look(int what) {
        switch (what) {
            case 0:
                return now.houses;
            case 1:
                return now.beds.week;
            case 2:
                return now.beds.breaches;
            case 3:
                return now.pots();
            case 4:
                return now.beds.leaves;
            case 5:
                return now.beds.draws;
            case 6:
            case 7:
            case 8:
            case 9:
                return now.told(what - 6).lines;
            case 10:
                return now.talks;
            case 11:
                return undos.count;
            case 12:
                return now.most;
            case 13:
                return now.frost;
            case 14:
                return now.bees;
            default:
                return isThing(what - 20) ? now.stock[what - 20] : NONE;
        }
    }

    private boolean isHouse(int house) {
        return house >= 0 && house < now.houses;
    }

    private boolean areTwo(int a, int b) {
        return isHouse(a) && isHouse(b) && a != b;
    }

    private static boolean isThing(int thing) {
        return thing >= 0 && thing < THINGS;
    }

    /** What weeks and single deeds change: it is copied whole for what can be undone, for thoughts and for the image. */
    private static final class Beds {
        final int[] degree = new int[HOUSES * THINGS];
        final int[] thing = new int[HOUSES];
        final int[] height = new int[HOUSES];
        final int[] tender = new int[HOUSES];
        final int[] water = new int[HOUSES];
        int draws;
        int week;
        int breaches;
        // How many lines of THE BOOK are written: going back shortens the book, what stands before stays as it was.
        int leaves;

        Beds() {
            for (int i = 0; i < degree.length; i++) {
                degree[i] = FIRST_DEGREE;
            }
            for (int house = 0; house < HOUSES; house++) {
                thing[house] = NONE;
                tender[house] = NONE;
            }
        }

        void copyFrom(Beds other) {
            System.arraycopy(other.degree, 0, degree, 0, degree.length);
            System.arraycopy(other.thing, 0, thing, 0, HOUSES);
            System.arraycopy(other.height, 0, height, 0, HOUSES);
            System.arraycopy(other.tender, 0, tender, 0, HOUSES);
            System.arraycopy(other.water, 0, water, 0, HOUSES);
            draws = other.draws;
            week = other.week;
            breaches = other.breaches;
            leaves = other.leaves;
        }

        boolean hasPot(int house) {
            return thing[house] != NONE;
        }

        void putPot(int house, int ofThing, int high, int howTender) {
            thing[house] = ofThing;
            height[house] = high;
            tender[house] = howTender;
            water[house] = 0;
        }

        void clearPot(int house) {
            putPot(house, NONE, 0, NONE);
        }

        int degreeOf(int house, int ofThing) {
            return degree[house * THINGS + ofThing];
        }

        void believe(int house, int ofThing, int much) {
            degree[house * THINGS + ofThing] = Math.max(0, Math.min(FULL, much));
        }

        int sureOf(int house) {
            int set = 0;
            for (int t = 0; t < THINGS; t++) {
                if (degree[house * THINGS + t] >= SURE) {
                    set |= 1 << t;
                }
            }
            return set;
        }

        int sures(int house) {
            return Integer.bitCount(sureOf(house));
        }

        int sumOf(int house, int set) {
            int sum = 0;
            for (int t = 0; t < THINGS; t++) {
                if ((set >> t & 1) != 0) {
                    sum += degree[house * THINGS + t];
                }
            }
            return sum;
        }
    }

    /** The lines of one TEXT as rows of numbers, and for THE LAW the code of what its lines ask. */
    private static final class Text {
        private static final int WIDTH = 5;
        final int[] cells;
        final int[] code;
        int lines;
        int codes;

        Text(int mostLines, int mostCodes) {
            cells = new int[mostLines * WIDTH];
            code = new int[mostCodes];
        }

        void clear() {
            lines = 0;
            codes = 0;
        }

        void copyFrom(Text other) {
            System.arraycopy(other.cells, 0, cells, 0, Math.min(cells.length, other.lines * WIDTH));
            System.arraycopy(other.code, 0, code, 0, Math.min(code.length, other.codes));
            lines = other.lines;
            codes = other.codes;
        }

        int at(int line, int what) {
            return cells[line * WIDTH + what];
        }

        void add(int a, int b, int c, int d, int e) {
            int from = lines * WIDTH;
            if (from + WIDTH > cells.length) {
                return;
            }
            cells[from] = a;
            cells[from + 1] = b;
            cells[from + 2] = c;
            cells[from + 3] = d;
            cells[from + 4] = e;
            lines++;
        }

        void emit(int c) {
            if (codes < code.length) {
                code[codes] = c;
                codes++;
            }
        }
    }

    /** All that THE IMAGE holds. */
    private static final class Garden {
        int houses;
        int most = 3;
        int frost;
        int bees;
        final int[] stock = new int[THINGS];
        // Of each HOUSE the set of those to which it has LINES.
        final int[] lines = new int[HOUSES];
        // THING, set that it is from or clashes with, N or 0.
        final Text reasons = new Text(MOST_LINES, 0);
        // Word, where E begins, where E ends and B begins, where B ends.
        final Text law = new Text(MOST_LINES, TAPE);
        // HOUSE, 1 sure or 0 doubts, THING.
        final Text works = new Text(MOST_WORKS, 0);
        // WEEK, word, HOUSE, and the one or two numbers that follow.
        final Text plan = new Text(MOST_LINES, 0);
        final int[] talk = new int[MOST_TALKS * TALK_WIDTH];
        int talks;
        final int[] book = new int[BOOK_LINES * BOOK_WIDTH];
        final Beds beds = new Beds();

        void copyFrom(Garden other) {
            houses = other.houses;
            most = other.most;
            frost = other.frost;
            bees = other.bees;
            talks = other.talks;
            System.arraycopy(other.stock, 0, stock, 0, THINGS);
            System.arraycopy(other.lines, 0, lines, 0, HOUSES);
            System.arraycopy(other.talk, 0, talk, 0, talk.length);
            System.arraycopy(other.book, 0, book, 0, book.length);
            reasons.copyFrom(other.reasons);
            law.copyFrom(other.law);
            works.copyFrom(other.works);
            plan.copyFrom(other.plan);
            beds.copyFrom(other.beds);
        }

        Text told(int k) {
            if (k == REASONS) {
                return reasons;
            }
            if (k == LAW) {
                return law;
            }
            return k == WORKS ? works : plan;
        }

        void join(int a, int b, boolean is) {
            if (is) {
                lines[a] |= 1 << b;
                lines[b] |= 1 << a;
            } else {
                lines[a] &= ~(1 << b);
                lines[b] &= ~(1 << a);
            }
        }

        void heard(int house, int thing, int how) {
            int from = talks * TALK_WIDTH;
            if (from + TALK_WIDTH > talk.length) {
                return;
            }
            talk[from] = house;
            talk[from + 1] = thing;
            talk[from + 2] = how;
            talks++;
        }

        int pots() {
            int pots = 0;
            for (int house = 0; house < houses; house++) {
                if (beds.hasPot(house)) {
                    pots++;
                }
            }
            return pots;
        }
    }

    /** The last six states to which one can go back, in a ring. */
    private static final class Undos {
        private static final int MOST = 6;
        private final Beds[] ring = new Beds[MOST];
        private int next;
        int count;

        Undos() {
            for (int i = 0; i < MOST; i++) {
                ring[i] = new Beds();
            }
        }

        void keep(Beds beds) {
            ring[next].copyFrom(beds);
            next = next + 1 < MOST ? next + 1 : 0;
            count = Math.min(MOST, count + 1);
        }

        boolean goBack(Beds beds) {
            if (count == 0) {
                return false;
            }
            next = next > 0 ? next - 1 : MOST - 1;
            count--;
            beds.copyFrom(ring[next]);
            return true;
        }

        void forget() {
            count = 0;
        }
    }

    /** The TAPE, and the TOKENS into which it is cut. */
    private static final class Tape {
        private static final int MOST_DIGITS = 4;
        final byte[] bytes = new byte[TAPE];
        int length;
        final int[] kind = new int[TAPE + 1];
        final int[] value = new int[TAPE + 1];
        final int[] place = new int[TAPE + 1];
        private int tokens;

        void add(int number) {
            for (int shift = 24; shift >= 0; shift -= 8) {
                if (length < TAPE) {
                    bytes[length] = (byte) (number >> shift);
                    length++;
                }
            }
        }

        /** All TOKENS and an end behind them; what is none is kept as one that can stand nowhere. */
        void cut() {
            tokens = 0;
            int at = 0;
            for (int i = 0; i < TAPE && at < length; i++) {
                int c = bytes[at];
                int to = at + 1;
                if (isLetter(c)) {
                    to = lettersEnd(at);
                    put(wordOf(at, to), 0, at);
                } else if (isDigit(c)) {
                    to = digitsEnd(at);
                    put(to - at > MOST_DIGITS ? T_BAD : T_NUMBER, numberOf(at, to), at);
                } else if (c != 32 && c != 10) {
                    put(signOf(c), 0, at);
                }
                at = to;
            }
            put(T_END, 0, length);
        }

        private void put(int k, int v, int at) {
            if (tokens <= TAPE) {
                kind[tokens] = k;
                value[tokens] = v;
                place[tokens] = at;
                tokens++;
            }
        }

        private static boolean isLetter(int c) {
            return (c >= 'a' && c <= 'z') || (c >= 'A' && c <= 'Z');
        }

        private static boolean isDigit(int c) {
            return c >= '0' && c <= '9';
        }

        private int lettersEnd(int from) {
            int to = from;
            while (to < length && isLetter(bytes[to])) {
                to++;
            }
            return to;
        }

        private int digitsEnd(int from) {
            int to = from;
            while (to < length && isDigit(bytes[to])) {
                to++;
            }
            return to;
        }

        private int numberOf(int from, int to) {
            int number = 0;
            for (int i = from; i < to; i++) {
                number = number * 10 + bytes[i] - '0';
            }
            return number;
        }

        private static int signOf(int c) {
            int sign = c > 0 ? SIGNS.indexOf((char) c) : NONE;
            return sign < 0 ? T_BAD : S_END_OF_LINE + sign;
        }

        private int wordOf(int from, int to) {
            int word = 0;
            int same = 0;
            for (int i = 0; i < WORDS.length(); i++) {
                char c = WORDS.charAt(i);
                if (c == ' ') {
                    if (same == to - from) {
                        return word;
                    }
                    word++;
                    same = 0;
                } else if (same >= 0 && from + same < to && bytes[from + same] == c) {
                    same++;
                } else {
                    same = NONE;
                }
            }
            return T_BAD;
        }
    }

    /** Reads the TAPE as a TEXT. Behind the first FAULT nothing is read on, so that it is the first by its place. */
    private static final class Grammar {
        private static final int CANNOT_STAND = 1;
        private static final int OUT_OF_BOUNDS = 2;
        private static final int TOO_MANY = 3;
        private static final int MOST_OPEN = 8;
        private final Tape tape;
        final Text draft = new Text(MOST_LINES, TAPE);
        int fault;
        int place = NONE;
        private int token;
        private int houses;
        private int mostLines;
        // What of a B waits for its right side: or, and, not, (.
        private final int[] waiting = new int[32];
        private int top;
        private int open;

        Grammar(Tape tape) {
            this.tape = tape;
        }

        boolean read(int k, int ofHouses) {
            fault = 0;
            place = NONE;
            if (k < REASONS || k > PLAN) {
                return false;
            }
            houses = ofHouses;
            mostLines = k == WORKS ? MOST_WORKS : MOST_LINES;
            token = 0;
            draft.clear();
            tape.cut();
            for (int i = 0; i <= mostLines && fault == 0 && kind() != T_END; i++) {
                if (k == REASONS) {
                    readReason();
                } else if (k == LAW) {
                    readLaw();
                } else if (k == WORKS) {
                    readWork();
                } else {
                    readPlan();
                }
            }
            return fault == 0;
        }

        private void readReason() {
            int head = token;
            int thing = number(0, THINGS - 1);
            if (fault == 0 && draft.lines >= mostLines) {
                fail(TOO_MANY, head);
            }
            if (fault != 0) {
                return;
            }
            if (kind() == W_CLASHES) {
                token++;
                int other = another(thing);
                finish(thing, 1 << other, 0, 0, 0);
                return;
            }
            takes(W_FROM);
            int set = 1 << another(thing);
            for (int i = 0; i < TAPE && fault == 0 && kind() == W_AND; i++) {
                token++;
                set |= 1 << another(thing);
            }
            takes(W_GIVES);
            int n = number(1, FULL);
            finish(thing, set, n, 0, 0);
        }

        private int another(int thing) {
            int at = token;
            int other = number(0, THINGS - 1);
            if (fault == 0 && other == thing) {
                fail(OUT_OF_BOUNDS, at);
            }
            return other;
        }

        private void readLaw() {
            int word = kind();
            begins(word >= W_GROW && word <= W_SEED);
            int from = draft.codes;
            readSum();
            int to = draft.codes;
            if (fault == 0 && kind() == W_WHEN) {
                token++;
                readCondition();
            }
            finish(word, from, to, draft.codes, 0);
        }

        private void readWork() {
            begins(kind() == W_WORK);
            int house = number(0, houses - 1);
            boolean sure = kind() == W_SURE;
            takes(sure ? W_SURE : W_DOUBTS);
            int thing = number(0, THINGS - 1);
            finish(house, sure ? 1 : 0, thing, 0, 0);
        }

        private void readPlan() {
            begins(kind() == W_ON);
            int week = number(0, LAST_WEEK);
            int deed = kind();
            boolean known = deed == W_POT || deed == W_WATER || deed == W_WEED || deed == W_TELL;
            takes(known ? deed : W_POT);
            int house = number(0, houses - 1);
            int a = 0;
            int b = 0;
            if (deed == W_POT || deed == W_TELL) {
                takes(W_OF);
                a = number(0, THINGS - 1);
                takes(deed == W_POT ? W_TENDER : W_TO);
                b = number(0, deed == W_POT ? MOST_TENDER : FULL);
            } else if (deed == W_WATER) {
                takes(W_BY);
                a = number(1, TALLEST);
            }
            finish(week, deed, house, a, b);
        }

        private void begins(boolean may) {
            if (!may) {
                fail(CANNOT_STAND, token);
            } else if (draft.lines >= mostLines) {
                fail(TOO_MANY, token);
            } else {
                token++;
            }
        }

        private void finish(int a, int b, int c, int d, int e) {
            takes(S_END_OF_LINE);
            if (fault == 0) {
                draft.add(a, b, c, d, e);
            }
        }

        /** B without recursion: a C is read as soon as one must come, and what it ends is put behind it. */
        private void readCondition() {
            top = 0;
            open = 0;
            boolean more = true;
            for (int i = 0; i <= TAPE && more && fault == 0; i++) {
                if (kind() == W_NOT || kind() == S_OPEN) {
                    opens();
                } else {
                    readSum();
                    int sign = kind();
                    takes(sign >= S_LESS && sign <= S_MORE ? sign : S_EQUAL);
                    readSum();
                    draft.emit(sign);
                    more = joins();
                }
            }
        }

        private void opens() {
            if (open >= MOST_OPEN) {
                fail(TOO_MANY, token);
                return;
            }
            open++;
            waits();
        }

        private void waits() {
            if (top < waiting.length) {
                waiting[top] = kind();
                top++;
            }
            token++;
        }

        /** Behind a C: whether another must come. */
        private boolean joins() {
            for (int i = 0; i <= TAPE && fault == 0; i++) {
                int next = kind();
                if (next == W_AND || next == W_OR) {
                    settle(next);
                    waits();
                    return true;
                }
                settle(W_OR);
                if (top == 0) {
                    return false;
                }
                if (next != S_CLOSE) {
                    fail(CANNOT_STAND, token);
                    return false;
                }
                top--;
                open--;
                token++;
            }
            return false;
        }

        /** What binds at least so tightly has its right side now; a ( that is open holds back what stands ahead of it. */
        private void settle(int word) {
            while (top > 0 && waiting[top - 1] != S_OPEN && waiting[top - 1] >= word) {
                top--;
                if (waiting[top] == W_NOT) {
                    open--;
                }
                draft.emit(waiting[top]);
            }
        }

        /** E: a + or - waits until the product behind it is whole. */
        private void readSum() {
            int sum = NONE;
            readUnit();
            for (int i = 0; i <= TAPE && fault == 0; i++) {
                int sign = kind();
                if (sign == S_TIMES) {
                    token++;
                    readUnit();
                    draft.emit(S_TIMES);
                } else if (sign == S_PARTED) {
                    token++;
                    draft.emit(C_NUMBER + number(1, MOST_NUMBER));
                    draft.emit(S_PARTED);
                } else {
                    if (sum != NONE) {
                        draft.emit(sum);
                    }
                    if (sign != S_PLUS && sign != S_MINUS) {
                        return;
                    }
                    sum = sign;
                    token++;
                    readUnit();
                }
            }
        }

        private void readUnit() {
            if (fault != 0) {
                return;
            }
            if (kind() == T_NUMBER) {
                draft.emit(C_NUMBER + tape.value[token]);
                token++;
            } else if (kind() <= W_LINES) {
                draft.emit(kind());
                token++;
            } else {
                fail(CANNOT_STAND, token);
            }
        }

        // The end is never taken, so that token stays at it at the latest.
        private int kind() {
            return token <= TAPE ? tape.kind[token] : T_END;
        }

        private void takes(int wanted) {
            if (fault != 0) {
                return;
            }
            if (kind() == wanted) {
                token++;
            } else {
                fail(CANNOT_STAND, token);
            }
        }

        private int number(int least, int most) {
            if (fault != 0) {
                return NONE;
            }
            int v = tape.value[token];
            if (kind() != T_NUMBER) {
                fail(CANNOT_STAND, token);
            } else if (v < least || v > most) {
                fail(OUT_OF_BOUNDS, token);
            } else {
                token++;
                return v;
            }
            return NONE;
        }

        private void fail(int what, int at) {
            if (fault == 0) {
                fault = what;
                place = tape.place[at];
            }
        }
    }

    /** What THE LAW tells of one POT at one time. */
    private static final class Law {
        private final int[] seen = new int[W_LINES + 1];
        private final int[] stack = new int[32];

        void observe(Garden garden, Beds beds, int house, int sures) {
            int thing = beds.thing[house];
            seen[W_HEIGHT] = beds.height[house];
            seen[W_TENDER] = beds.tender[house];
            seen[W_WATER] = beds.water[house];
            seen[W_DEGREE] = isThing(thing) ? beds.degreeOf(house, thing) : 0;
            seen[W_THING] = thing;
            seen[W_WEEK] = beds.week;
            seen[W_SURES] = sures;
            seen[W_LINES] = Integer.bitCount(garden.lines[house]);
        }

        int grows(Text law) {
            return told(law, W_GROW, seen[W_WATER] - 5, -TALLEST, TALLEST);
        }

        int lowers(Text law) {
            return told(law, W_LOWER, seen[W_HEIGHT] / 10, 0, FULL);
        }

        int seeds(Text law) {
            return told(law, W_SEED, 10, 0, TALLEST);
        }

        private int told(Text law, int word, int otherwise, int least, int most) {
            int worth = otherwise;
            for (int line = 0; line < law.lines; line++) {
                int to = law.at(line, 2);
                int end = law.at(line, 3);
                if (law.at(line, 0) == word && (to == end || worthOf(law, to, end) != 0)) {
                    worth = worthOf(law, law.at(line, 1), to);
                    break;
                }
            }
            return Math.max(least, Math.min(most, worth));
        }

        private int worthOf(Text law, int from, int to) {
            int top = 0;
            for (int i = from; i < to && i < law.codes; i++) {
                int c = law.code[i];
                if (c >= C_NUMBER || c <= W_LINES) {
                    if (top < stack.length) {
                        stack[top] = c >= C_NUMBER ? c - C_NUMBER : seen[c];
                        top++;
                    }
                } else if (c == W_NOT && top > 0) {
                    stack[top - 1] = 1 - stack[top - 1];
                } else if (top > 1) {
                    top--;
                    stack[top - 1] = joined(c, stack[top - 1], stack[top]);
                }
            }
            return stack[0];
        }

        private static int joined(int c, int a, int b) {
            switch (c) {
                case S_PLUS:
                    return a + b;
                case S_MINUS:
                    return a - b;
                case S_TIMES:
                    return a * b;
                case S_PARTED:
                    return b == 0 ? 0 : a / b;
                case S_LESS:
                    return a < b ? 1 : 0;
                case S_EQUAL:
                    return a == b ? 1 : 0;
                case S_MORE:
                    return a > b ? 1 : 0;
                case W_AND:
                    return a & b;
                default:
                    return a | b;
            }
        }
    }

    /** WEEKS that go by over some beds: over the garden's own, or in thought over others, without DRAWS and THE BOOK. */
    private static final class Season {
        private final Garden garden;
        private final Beds beds;
        private final Law law;
        private final boolean awake;

        Season(Garden garden, Beds beds, Law law, boolean awake) {
            this.garden = garden;
            this.beds = beds;
            this.law = law;
            this.awake = awake;
        }

        void fallAsleep() {
            beds.copyFrom(garden.beds);
        }

        void plant(int house, int thing, int tender) {
            beds.putPot(house, thing, FIRST_HEIGHT, tender);
            write(POTTED, house, thing);
        }

        void pour(int house, int n) {
            beds.water[house] = Math.min(TALLEST, beds.water[house] + n);
        }

        void lose(int house, int why) {
            write(why, house, beds.thing[house]);
            beds.clearPot(house);
        }

        int pass() {
            for (int line = 0; line < garden.plan.lines; line++) {
                if (garden.plan.at(line, 0) == beds.week) {
                    follow(line);
                }
            }
            for (int house = 0; house < garden.houses; house++) {
                reasonOut(house);
            }
            for (int house = 0; house < garden.houses; house++) {
                if (beds.hasPot(house)) {
                    growPot(house, beds.sures(house));
                }
            }
            if (awake && garden.frost > 0) {
                freeze();
            }
            if (awake && garden.bees > 0) {
                fly();
            }
            int over = inspect();
            beds.week++;
            return over;
        }

        private void follow(int line) {
            int deed = garden.plan.at(line, 1);
            int house = garden.plan.at(line, 2);
            int a = garden.plan.at(line, 3);
            int b = garden.plan.at(line, 4);
            boolean potted = beds.hasPot(house);
            if (deed == W_TELL) {
                beds.believe(house, a, b);
            } else if (deed == W_POT && !potted) {
                plant(house, a, b);
            } else if (deed == W_WATER && potted) {
                pour(house, a);
            } else if (deed == W_WEED && potted) {
                lose(house, WEEDED);
            }
        }

        private void reasonOut(int house) {
            int sure = beds.sureOf(house);
            for (int line = 0; line < garden.reasons.lines; line++) {
                int thing = garden.reasons.at(line, 0);
                int from = garden.reasons.at(line, 1);
                int more = garden.reasons.at(line, 2);
                if (more > 0 && (from & ~sure) == 0) {
                    beds.believe(house, thing, beds.degreeOf(house, thing) + more);
                    sure = beds.sureOf(house);
                }
            }
        }

        private void growPot(int house, int sures) {
            int thing = beds.thing[house];
            law.observe(garden, beds, house, sures);
            int lower = law.lowers(garden.law);
            int height = beds.height[house] + law.grows(garden.law);
            beds.believe(house, thing, beds.degreeOf(house, thing) - lower);
            beds.height[house] = Math.min(TALLEST, height);
            beds.water[house] = 0;
            if (height < 1) {
                lose(house, WILTED);
            }
        }

        private void freeze() {
            if (draw(THOUSAND) >= garden.frost) {
                return;
            }
            for (int house = 0; house < garden.houses; house++) {
                if (beds.hasPot(house) && draw(10) < beds.tender[house]) {
                    lose(house, FROZEN);
                }
            }
        }

        private void fly() {
            int tall = 0;
            for (int house = 0; house < garden.houses; house++) {
                if (beds.height[house] >= BEES_HEIGHT) {
                    tall |= 1 << house;
                }
            }
            for (int house = 0; house < garden.houses; house++) {
                if ((tall >> house & 1) != 0 && draw(THOUSAND) < garden.bees) {
                    carry(house);
                }
            }
        }

        private void carry(int from) {
            for (int house = 0; house < garden.houses; house++) {
                if ((garden.lines[from] >> house & 1) != 0 && !beds.hasPot(house)) {
                    law.observe(garden, beds, from, beds.sures(from));
                    int seed = law.seeds(garden.law);
                    if (seed > 0) {
                        beds.putPot(house, beds.thing[from], seed, beds.tender[from]);
                        write(CARRIED, house, beds.thing[from]);
                    }
                    return;
                }
            }
        }

        private int inspect() {
            int over = 0;
            for (int house = 0; house < garden.houses; house++) {
                int sures = beds.sures(house);
                if (sures > garden.most) {
                    write(BREACH, house, sures);
                    over++;
                }
            }
            beds.breaches += over;
            return over;
        }

        int firstOver() {
            for (int house = 0; house < garden.houses; house++) {
                if (beds.sures(house) > garden.most) {
                    return house;
                }
            }
            return NONE;
        }

        /** Whether the POT of a HOUSE, watered by so much each WEEK, is there yet after n. */
        boolean bears(int house, int n, int each) {
            fallAsleep();
            int sures = beds.sures(house);
            for (int i = 0; i < n && beds.hasPot(house); i++) {
                pour(house, each);
                growPot(house, sures);
                beds.week++;
            }
            return beds.hasPot(house);
        }

        private int draw(int m) {
            beds.draws = 1664525 * beds.draws + 1013904223;
            return m > 0 ? (beds.draws >>> 8) % m : 0;
        }

        private void write(int what, int house, int thing) {
            if (!awake || beds.leaves >= BOOK_LINES) {
                return;
            }
            int from = beds.leaves * BOOK_WIDTH;
            garden.book[from] = beds.week;
            garden.book[from + 1] = what;
            garden.book[from + 2] = house;
            garden.book[from + 3] = thing;
            beds.leaves++;
        }
    }

    /** GIVES: doubts are placed one by one, those placed before giving way; then each HOUSE is led to its least set. */
    private static final class Gifts {
        int all;
        final int[] given = new int[HOUSES];
        // What a HOUSE may get beside what it is given.
        private final int[] may = new int[HOUSES];
        private final int[] left = new int[THINGS];
        private int tried;

        boolean share(Garden garden) {
            all = 0;
            System.arraycopy(garden.stock, 0, left, 0, THINGS);
            for (int house = 0; house < HOUSES; house++) {
                given[house] = 0;
                may[house] = garden.beds.sureOf(house);
            }
            for (int i = 0; i < garden.works.lines; i++) {
                if (garden.works.at(i, 1) == 1) {
                    may[garden.works.at(i, 0)] &= ~(1 << garden.works.at(i, 2));
                }
            }
            for (int house = 0; house < garden.houses; house++) {
                int needs = garden.beds.sures(house) - garden.most;
                for (int i = 0; i < needs; i++) {
                    tried = 0;
                    if (!place(house, 0)) {
                        return false;
                    }
                    all++;
                }
            }
            for (int house = 0; house < garden.houses; house++) {
                lessen(house);
            }
            return true;
        }

        /** The highest THINGS are left out where the others still suffice: what stays is the least set. */
        private void lessen(int house) {
            for (int t = THINGS - 1; t >= 0; t--) {
                int bit = 1 << t;
                may[house] &= ~bit;
                if ((given[house] & bit) != 0) {
                    drop(house, t);
                    tried = 0;
                    if (!place(house, 0)) {
                        hand(house, t);
                    }
                }
            }
        }

        // Each level tries a THING that none above it has tried, so that there are never more levels than THINGS.
        private boolean place(int house, int depth) {
            if (depth > THINGS) {
                return false;
            }
            for (int t = 0; t < THINGS; t++) {
                int bit = 1 << t;
                if ((may[house] & ~given[house] & ~tried & bit) != 0) {
                    tried |= bit;
                    if (left[t] > 0 || frees(t, depth)) {
                        hand(house, t);
                        return true;
                    }
                }
            }
            return false;
        }

        private boolean frees(int thing, int depth) {
            for (int house = 0; house < HOUSES; house++) {
                if ((given[house] >> thing & 1) != 0 && place(house, depth + 1)) {
                    drop(house, thing);
                    return true;
                }
            }
            return false;
        }

        private void hand(int house, int thing) {
            given[house] |= 1 << thing;
            left[thing]--;
        }

        private void drop(int house, int thing) {
            given[house] &= ~(1 << thing);
            left[thing]++;
        }
    }

    /** What HOUSES are SURE of, thought over: DONE, STRUCK, DOWN, FITS, ASK. */
    private static final class Mind {
        private final int[] clash = new int[THINGS];
        private final int[] with = new int[THINGS];

        int worksDone(Garden garden) {
            int set = 0;
            for (int i = 0; i < garden.works.lines; i++) {
                int degree = garden.beds.degreeOf(garden.works.at(i, 0), garden.works.at(i, 2));
                if ((degree >= SURE) == (garden.works.at(i, 1) == 1)) {
                    set |= 1 << i;
                }
            }
            return set;
        }

        int toStrike(Garden garden, int house) {
            findClashes(garden.reasons);
            int sure = garden.beds.sureOf(house);
            int best = sure;
            int least = garden.beds.sumOf(house, sure);
            for (int set = 0; set < SETS; set++) {
                if ((set & ~sure) == 0 && isAtPeace(sure & ~set)) {
                    int sum = garden.beds.sumOf(house, set);
                    if (sum < least) {
                        least = sum;
                        best = set;
                    }
                }
            }
            return best;
        }

        private void findClashes(Text reasons) {
            for (int t = 0; t < THINGS; t++) {
                clash[t] = 0;
            }
            for (int i = 0; i < reasons.lines; i++) {
                if (reasons.at(i, 2) == 0) {
                    clash[reasons.at(i, 0)] |= reasons.at(i, 1);
                }
            }
        }

        // A clash is kept at one of its two THINGS only: looking from all THINGS finds it all the same.
        private boolean isAtPeace(int set) {
            for (int t = 0; t < THINGS; t++) {
                if ((set >> t & 1) != 0 && (clash[t] & set) != 0) {
                    return false;
                }
            }
            return true;
        }

        int falls(Garden garden, int house, int doubted) {
            int may = garden.beds.sureOf(house) & ~(1 << doubted);
            int given = 0;
            for (int i = 0; i < garden.reasons.lines; i++) {
                if (garden.reasons.at(i, 2) > 0) {
                    given |= 1 << garden.reasons.at(i, 0);
                }
            }
            int stands = may & ~given;
            // Each round but the last makes one THING more stand at least.
            for (int round = 0; round < THINGS; round++) {
                stands |= may & follows(garden.reasons, stands);
            }
            return may & ~stands;
        }

        private int follows(Text reasons, int stands) {
            int set = 0;
            for (int i = 0; i < reasons.lines; i++) {
                if (reasons.at(i, 2) > 0 && (reasons.at(i, 1) & ~stands) == 0) {
                    set |= 1 << reasons.at(i, 0);
                }
            }
            return set;
        }

        int countFits(Garden garden, int house, int e) {
            int fit = 0;
            for (int set = 0; set < SETS; set++) {
                if (isFit(garden, house, e, set)) {
                    fit++;
                }
            }
            return fit;
        }

        int bestQuestion(Garden garden, int house, int e) {
            int fit = 0;
            for (int t = 0; t < THINGS; t++) {
                with[t] = 0;
            }
            for (int set = 0; set < SETS; set++) {
                if (isFit(garden, house, e, set)) {
                    fit++;
                    for (int t = 0; t < THINGS; t++) {
                        with[t] += set >> t & 1;
                    }
                }
            }
            int best = NONE;
            int least = fit + 1;
            for (int t = 0; t < THINGS && fit > 1; t++) {
                int greater = Math.max(with[t], fit - with[t]);
                if (greater < least) {
                    least = greater;
                    best = t;
                }
            }
            return best;
        }

        private boolean isFit(Garden garden, int house, int e, int set) {
            if (Integer.bitCount(set) > garden.most) {
                return false;
            }
            int errors = 0;
            for (int i = 0; i < garden.talks; i++) {
                int from = i * TALK_WIDTH;
                int sure = set >> garden.talk[from + 1] & 1;
                // Who is SURE does not argue: alike numbers gainsay each other.
                if (garden.talk[from] == house && sure == garden.talk[from + 2]) {
                    errors++;
                }
            }
            return errors <= e;
        }
    }

    /** What LINES and POTS alone decide: BY, PART, GAME, GREENHOUSES. */
    private static final class Grounds {
        // Of each set of POTS the fewest houses times 1000, and how full the last one is at least.
        private final int[] filled = new int[SETS];

        int flight(Garden garden, int house, int thing) {
            int near = 1 << house;
            for (int lines = 0; lines < HOUSES; lines++) {
                int next = near;
                for (int h = 0; h < garden.houses; h++) {
                    if ((near >> h & 1) != 0) {
                        if (garden.beds.thing[h] == thing) {
                            return lines;
                        }
                        next |= garden.lines[h];
                    }
                }
                near = next;
            }
            return NONE;
        }

        /** The fewest LINES that leave any side with a but without b. */
        int cut(Garden garden, int a, int b) {
            int least = HOUSES * HOUSES;
            for (int side = 0; side < 1 << garden.houses; side++) {
                if ((side >> a & 1) == 1 && (side >> b & 1) == 0) {
                    int leave = 0;
                    for (int h = 0; h < garden.houses; h++) {
                        if ((side >> h & 1) != 0) {
                            leave += Integer.bitCount(garden.lines[h] & ~side);
                        }
                    }
                    least = Math.min(least, leave);
                }
            }
            return least;
        }

        int winningPot(Garden garden) {
            for (int house = 0; house < garden.houses; house++) {
                if (leftOf(garden, house) < garden.beds.height[house]) {
                    return house;
                }
            }
            return NONE;
        }

        /** What is to be left of a POT so that the HEIGHTS cancel out, as in Nim. */
        int leftOf(Garden garden, int house) {
            int left = garden.beds.height[house];
            for (int h = 0; h < garden.houses; h++) {
                left ^= garden.beds.height[h];
            }
            return left;
        }

        int fewest(Garden garden, int c) {
            int pots = 0;
            for (int house = 0; house < garden.houses; house++) {
                if (garden.beds.height[house] > c) {
                    return NONE;
                }
                if (garden.beds.hasPot(house)) {
                    pots |= 1 << house;
                }
            }
            filled[0] = c;
            for (int set = 1; set <= pots; set++) {
                if ((set & ~pots) == 0) {
                    filled[set] = leastFilled(garden, set, c);
                }
            }
            return filled[pots] / THOUSAND;
        }

        private int leastFilled(Garden garden, int set, int c) {
            int least = SETS * THOUSAND;
            for (int house = 0; house < garden.houses; house++) {
                if ((set >> house & 1) != 0) {
                    int before = filled[set & ~(1 << house)];
                    int height = garden.beds.height[house];
                    int full = before % THOUSAND + height;
                    int after = full <= c ? before + height : (before / THOUSAND + 1) * THOUSAND + height;
                    least = Math.min(least, after);
                }
            }
            return least;
        }
    }
}
