/** A port whose tattoos travel by touch; what each call promises is told in ../shared/DOC.md. */
public final class TravelMarks {
    public static final int BAD = -1, FULL = -2, NONE = -3;

    private static final int NO_ROW = -9;
    private static final int NOTHING = -11, OUTSIDE = -12, OTHER_SORT = -13, BELOW_0 = -14, PARTED_BY_0 = -15;
    private static final int FAULTY = -100;

    private static final int PEOPLE = 8, MARKS = 8, RESTS = 6, MOST_INK = 99, NOBODY = -1;
    private static final int MOST_HOURS = 60, MOST_WANTED = 30, MOST_STIRS = 30, MOST_NIGHTS = 8, MOST_HOPED = 99;
    private static final int HUNDRED = 100, FED_AT_ONCE = 8, ANY = -1;

    private static final int LOAD = 0, FADE = 1, TIDE = 2, CHANCE = 3, LAWS = 4;
    private static final int[] LAW_LEAST = {1, 0, 0, 0};
    private static final int[] LAW_MOST = {8, 9, 9, 99};
    private static final int[] LAW_AT_FIRST = {3, 1, 5, 20};

    private static final int SHIP = 1, SNAKE = 2, ANCHOR = 3, DRAGON = 4, NAME = 5, KINDS = 6;
    private static final int NO_KIND = -1;
    /** By KIND: the one above it. */
    private static final int[] ABOVE = {-1, 0, 0, 1, 2, 0};

    private static final int ROWS = 10, ROW_PARTS = 3;
    private static final int SHEETS = 4, ITEMS = 40, BYTES = 0, SHORTS = 1, LONGS = 3, MISSING = -1;
    private static final int SHELVES = 4, A_MARK = 0, A_ROW = 1, EMPTY = 2, AS_ROW = 10;
    private static final int ACTS = 4, ITCHES = 0, CRAWLS = 1, PARTS = 2, BITES = 3;

    private final Port now = new Port();
    private final Port kept = new Port();
    /** What is TRIED is tried on this one, made once so that no call makes objects. */
    private final Port trial = new Port();
    /** How all is behind a plain HOUR: stir() holds each trial against it. */
    private final Port calm = new Port();
    private final Tape tape = new Tape();
    private final Deed deed = new Deed();
    private final Sheet[] sheets = new Sheet[SHEETS];
    private final Shelf[] shelves = new Shelf[SHELVES];
    private final int[] rows = new int[ROWS * ROW_PARTS];
    private int rowCount;
    private boolean anyKept;

    public TravelMarks() {
        for (int i = 0; i < SHEETS; i++) {
            sheets[i] = new Sheet();
        }
        for (int i = 0; i < SHELVES; i++) {
            shelves[i] = new Shelf();
        }
    }

    // ---- the port: its text, laws, marks and touches

    public int feed(long eight, int n) {
        return within(n, 1, FED_AT_ONCE) ? tape.take(eight, n) : BAD;
    }

    public int port() {
        trial.clear();
        trial.z = now.z;
        int fault = tape.readInto(trial);
        tape.length = 0;
        if (fault >= 0) {
            return FAULTY - fault;
        }
        now.become(trial);
        rowCount = 0;
        return now.count;
    }

    public int set(int law, int v) {
        if (!within(law, 0, LAWS - 1) || !within(v, LAW_LEAST[law], LAW_MOST[law])) {
            return BAD;
        }
        int was = now.laws[law];
        now.laws[law] = v;
        return was;
    }

    public int lawOf(int law) {
        return within(law, 0, LAWS - 1) ? now.laws[law] : BAD;
    }

    public int mark(int kind, int ink, int who) {
        if (!isKind(kind) || !isInk(ink) || !isOne(who)) {
            return BAD;
        }
        return now.add(kind, ink, who) ? now.count - 1 : FULL;
    }

    public int of(int mark, int what) {
        if (!isMark(mark)) {
            return BAD;
        }
        switch (what) {
            case 0: return now.kind[mark];
            case 1: return now.ink[mark];
            case 2: return now.on[mark];
            case 3: return now.fading(mark) + 1000;
            case 4: return now.goesNow(mark) ? 1 : 0;
            default: return BAD;
        }
    }

    public int mind(int mark, int kind, int ink) {
        if (!isMark(mark) || !isKind(kind) || !isInk(ink)) {
            return BAD;
        }
        int was = now.kind[mark];
        now.kind[mark] = kind;
        now.ink[mark] = ink;
        return was;
    }

    public int move(int mark, int who) {
        if (!isMark(mark) || !isOne(who)) {
            return BAD;
        }
        int was = now.on[mark];
        now.on[mark] = who;
        return was;
    }

    public int touch(int rest, int one, int other) {
        if (!isRest(rest) || !isOne(one) || !isOne(other) || one == other) {
            return BAD;
        }
        now.join(rest, one, other);
        return 1;
    }

    public int part(int rest) {
        if (!isRest(rest)) {
            return BAD;
        }
        boolean any = now.first[rest] != NOBODY;
        now.join(rest, NOBODY, NOBODY);
        return any ? 1 : 0;
    }

    public int touchOf(int rest, int what) {
        if (!isRest(rest) || !within(what, 0, 1)) {
            return BAD;
        }
        if (now.first[rest] == NOBODY) {
            return NONE;
        }
        return what == 0 ? now.first[rest] : now.second[rest];
    }

    public int who(int who, int what) {
        if (!isOne(who) || !within(what, 0, 1)) {
            return BAD;
        }
        return what == 0 ? now.marksOn(who) : now.circle(who);
    }

    // ---- hours

    public int hours(int n) {
        if (!within(n, 1, MOST_HOURS)) {
            return BAD;
        }
        for (int i = 0; i < n; i++) {
            now.passHour();
        }
        return Integer.bitCount(now.marked());
    }

    public int seed(int v) {
        int was = now.z;
        now.z = v;
        return was;
    }

    public int hour() {
        now.passHourByDraws();
        return Integer.bitCount(now.marked());
    }

    public int stir(int n) {
        if (!within(n, 1, MOST_STIRS)) {
            return BAD;
        }
        calm.become(now);
        calm.passHour();
        int z = now.z;
        int stirred = 0;
        for (int i = 0; i < n; i++) {
            trial.become(now);
            trial.z = z;
            trial.passHourByDraws();
            z = trial.z;
            if (!trial.liesAs(calm)) {
                stirred++;
            }
        }
        return stirred;
    }

    public int state(int what) {
        switch (what) {
            case 0: return now.hour;
            case 1: return now.allInk();
            case 2: return now.marked();
            case 3: return now.circles();
            case 4: return now.dried();
            case 5: return now.mostOnOne();
            default: return BAD;
        }
    }

    // ---- what is tried

    public int where(int mark, int n) {
        if (!isMark(mark) || !within(n, 0, MOST_HOURS)) {
            return BAD;
        }
        trial.become(now);
        for (int i = 0; i < n; i++) {
            trial.passHour();
        }
        return trial.on[mark];
    }

    public int comes(int mark, int who) {
        if (!isMark(mark) || !isOne(who)) {
            return BAD;
        }
        trial.become(now);
        return trial.hoursUntilOn(mark, who, MOST_HOURS);
    }

    public int bare(int who) {
        if (!isOne(who)) {
            return BAD;
        }
        trial.become(now);
        return trial.hoursUntilBare(who, MOST_HOURS);
    }

    public int dry() {
        trial.become(now);
        return trial.hoursUntilDry(MOST_HOURS);
    }

    public int kindFor(int mark, int who, int n) {
        if (!isWish(mark, who, n)) {
            return BAD;
        }
        int best = 0;
        int soonest = n + 1;
        for (int kind = 0; kind < KINDS; kind++) {
            trial.become(now);
            trial.kind[mark] = kind;
            int hours = trial.hoursUntilOn(mark, who, soonest - 1);
            if (hours >= 0) {
                best = kind;
                soonest = hours;
            }
        }
        return best;
    }

    public int inkFor(int mark, int who, int n) {
        if (!isWish(mark, who, n)) {
            return BAD;
        }
        for (int ink = 0; ink <= MOST_INK; ink++) {
            trial.become(now);
            trial.ink[mark] = ink;
            if (trial.hoursUntilOn(mark, who, n) >= 0) {
                return ink;
            }
        }
        return NONE;
    }

    public int touchFor(int mark, int who, int n) {
        if (!isWish(mark, who, n)) {
            return BAD;
        }
        trial.become(now);
        int asItIs = trial.hoursUntilOn(mark, who, n);
        int soonest = asItIs >= 0 ? asItIs : n + 1;
        int best = NONE;
        for (int rest = 0; rest < RESTS; rest++) {
            for (int pair = 0; pair < PEOPLE * PEOPLE; pair++) {
                int one = pair / PEOPLE;
                int other = pair % PEOPLE;
                int hours = one < other ? hoursByTouch(mark, who, soonest - 1, rest, one, other) : NONE;
                if (hours >= 0) {
                    best = rest * 100 + one * 10 + other;
                    soonest = hours;
                }
            }
        }
        return best;
    }

    private int hoursByTouch(int mark, int who, int most, int rest, int one, int other) {
        trial.become(now);
        trial.join(rest, one, other);
        return trial.hoursUntilOn(mark, who, most);
    }

    public int apartFor(int mark, int who, int n) {
        if (!isWish(mark, who, n)) {
            return BAD;
        }
        for (int size = 0; size <= RESTS; size++) {
            for (int set = 0; set < 1 << RESTS; set++) {
                if (Integer.bitCount(set) == size && neverComesApart(mark, who, n, set)) {
                    return set;
                }
            }
        }
        return NONE;
    }

    private boolean neverComesApart(int mark, int who, int n, int set) {
        trial.become(now);
        for (int rest = 0; rest < RESTS; rest++) {
            if (has(set, rest)) {
                trial.join(rest, NOBODY, NOBODY);
            }
        }
        return trial.hoursUntilOn(mark, who, n) < 0;
    }

    public int fits(int sheet, int mark, int what) {
        if (!isSheet(sheet) || !isMark(mark) || !within(what, 0, 1)) {
            return BAD;
        }
        if (sheets[sheet].sort == MISSING) {
            return NOTHING;
        }
        int fitting = 0;
        int least = NONE;
        for (int who = PEOPLE - 1; who >= 0; who--) {
            if (fitsFrom(sheets[sheet], mark, who)) {
                fitting++;
                least = who;
            }
        }
        return what == 0 ? fitting : least;
    }

    private boolean fitsFrom(Sheet told, int mark, int who) {
        trial.become(now);
        trial.on[mark] = who;
        for (int i = 0; i < told.size; i++) {
            trial.passHour();
            long there = told.items[i];
            if (there != ANY && there != trial.on[mark]) {
                return false;
            }
        }
        return true;
    }

    // ---- chance

    public long odds(int n, int k, int part) {
        if (!within(n, 0, MOST_NIGHTS) || !within(k, 0, n) || !within(part, 0, 1)) {
            return BAD;
        }
        long chance = now.laws[CHANCE];
        long above = choices(n, k) * power(chance, k) * power(HUNDRED - chance, n - k);
        return partOf(above, power(HUNDRED, n), part);
    }

    public long hope(int n, int part) {
        if (!within(n, 0, MOST_HOPED) || !within(part, 0, 1)) {
            return BAD;
        }
        return partOf((long) n * now.laws[CHANCE], HUNDRED, part);
    }

    private static long choices(int n, int k) {
        long ways = 1;
        for (int i = 1; i <= k; i++) {
            ways = ways * (n - k + i) / i;
        }
        return ways;
    }

    private static long power(long base, int exponent) {
        long power = 1;
        for (int i = 0; i < exponent; i++) {
            power *= base;
        }
        return power;
    }

    private static long partOf(long above, long below, int part) {
        long divisor = commonDivisor(above, below);
        if (divisor == 0) {
            return 0;
        }
        return part == 0 ? above / divisor : below / divisor;
    }

    private static long commonDivisor(long one, long other) {
        // Euclid's steps for two longs stay under 100.
        for (int i = 0; i < 100 && other != 0; i++) {
            long rest = one % other;
            one = other;
            other = rest;
        }
        return one;
    }

    // ---- rows and their reader

    public int prove(int mark, int n) {
        if (!isMark(mark) || !within(n, 1, ROWS)) {
            return BAD;
        }
        trial.become(now);
        for (int i = 0; i < n; i++) {
            trial.passHour();
            for (int what = 0; what < ROW_PARTS; what++) {
                rows[i * ROW_PARTS + what] = trial.rowPart(mark, what);
            }
        }
        rowCount = n;
        return n;
    }

    public int row(int i, int what) {
        return isRowPart(i, what) ? rows[i * ROW_PARTS + what] : NO_ROW;
    }

    public int alterRow(int i, int what, int v) {
        if (!isRowPart(i, what)) {
            return NO_ROW;
        }
        int was = rows[i * ROW_PARTS + what];
        rows[i * ROW_PARTS + what] = v;
        return was;
    }

    public int judge(int mark) {
        if (!isMark(mark)) {
            return BAD;
        }
        trial.become(now);
        for (int i = 0; i < rowCount; i++) {
            trial.passHour();
            for (int what = 0; what < ROW_PARTS; what++) {
                if (rows[i * ROW_PARTS + what] != trial.rowPart(mark, what)) {
                    return i + 1;
                }
            }
        }
        return 0;
    }

    // ---- sheets

    public int minds(int sheet, int i, int mark, int n) {
        if (!isSheet(sheet) || !isMark(mark) || !within(n, 0, MARKS) || mark + n > now.count) {
            return BAD;
        }
        Sheet from = sheets[sheet];
        if (from.sort == MISSING) {
            return NOTHING;
        }
        if (from.sort != BYTES) {
            return OTHER_SORT;
        }
        if (!within(i, 0, from.size) || n > from.size - i) {
            return OUTSIDE;
        }
        for (int k = 0; k < n; k++) {
            now.ink[mark + k] = heldInk((int) from.items[i + k]);
        }
        return n;
    }

    public int sheet(int sheet, int sort, int n) {
        if (!isSheet(sheet) || !within(sort, MISSING, LONGS)) {
            return BAD;
        }
        if (sort == MISSING) {
            sheets[sheet].become(MISSING, 0);
            return 1;
        }
        if (n > ITEMS) {
            return BAD;
        }
        if (n < 0) {
            return BELOW_0;
        }
        sheets[sheet].become(sort, n);
        return 1;
    }

    public int put(int sheet, int i, int v) {
        if (!isSheet(sheet)) {
            return BAD;
        }
        Sheet into = sheets[sheet];
        if (into.sort == MISSING) {
            return NOTHING;
        }
        if (!within(i, 0, into.size - 1)) {
            return OUTSIDE;
        }
        into.items[i] = into.narrowed(v);
        return 1;
    }

    public int item(int sheet, int sort, int i) {
        if (!isSheet(sheet) || !within(sort, BYTES, LONGS)) {
            return BAD;
        }
        Sheet from = sheets[sheet];
        if (from.sort == MISSING) {
            return NOTHING;
        }
        if (from.sort != sort) {
            return OTHER_SORT;
        }
        return within(i, 0, from.size - 1) ? (int) from.items[i] : OUTSIDE;
    }

    // ---- shelves and acts

    public int shelf(int shelf, int what, int n) {
        if (!isShelf(shelf)) {
            return BAD;
        }
        switch (what) {
            case A_MARK:
                if (!isMark(n)) {
                    return BAD;
                }
                shelves[shelf].holdMark(n);
                return 1;
            case A_ROW:
                if (!isSheet(n)) {
                    return BAD;
                }
                shelves[shelf].holdRow(sheets[n]);
                return 1;
            case EMPTY:
                shelves[shelf].holding = EMPTY;
                return 1;
            default:
                return BAD;
        }
    }

    public int taken(int shelf, int as) {
        boolean asRow = within(as, AS_ROW + BYTES, AS_ROW + LONGS);
        if (!isShelf(shelf) || !isKind(as) && !asRow) {
            return BAD;
        }
        Shelf from = shelves[shelf];
        int holding = heldBy(from);
        if (holding == EMPTY) {
            return NOTHING;
        }
        if (asRow) {
            return holding == A_ROW && from.sort == as - AS_ROW ? from.size : OTHER_SORT;
        }
        return holding == A_MARK && isUnder(now.kind[from.number], as) ? from.number : OTHER_SORT;
    }

    public int act(int shelf, int act, int x) {
        deed.forget();
        if (!isShelf(shelf) || !within(act, 0, ACTS - 1) || heldBy(shelves[shelf]) != A_MARK) {
            return 0;
        }
        int mark = shelves[shelf].number;
        return deed.doAct(mark, now.on[mark], now.kind[mark], act, x);
    }

    public int trace(int i) {
        return within(i, 0, deed.ran - 1) ? deed.bodies[i] : NONE;
    }

    /** What a SHELF holds at the time: a mark goes from it when there is no more one of its number. */
    private int heldBy(Shelf shelf) {
        return shelf.holding == A_MARK && !isMark(shelf.number) ? EMPTY : shelf.holding;
    }

    // ---- how many, and what is kept

    public int many(int what) {
        switch (what) {
            case 0: return now.count;
            case 1: return now.count - Integer.bitCount(now.dried());
            case 2: return Integer.bitCount(now.marked());
            case 3: return now.touches();
            case 4: return rowCount;
            case 5: return tape.length;
            case 6: return deed.ran;
            default: return BAD;
        }
    }

    public int keep() {
        kept.become(now);
        anyKept = true;
        return 1;
    }

    public int again() {
        if (!anyKept) {
            return NONE;
        }
        now.become(kept);
        return now.count;
    }

    // ---- what is as told

    private static boolean within(int v, int least, int most) {
        return v >= least && v <= most;
    }

    private static boolean has(int set, int i) {
        return (set >> i & 1) != 0;
    }

    private static int heldInk(int ink) {
        return Math.max(0, Math.min(MOST_INK, ink));
    }

    private static boolean isKind(int kind) {
        return within(kind, 0, KINDS - 1);
    }

    private static boolean isInk(int ink) {
        return within(ink, 0, MOST_INK);
    }

    private static boolean isOne(int who) {
        return within(who, 0, PEOPLE - 1);
    }

    private static boolean isRest(int rest) {
        return within(rest, 0, RESTS - 1);
    }

    private static boolean isSheet(int sheet) {
        return within(sheet, 0, SHEETS - 1);
    }

    private static boolean isShelf(int shelf) {
        return within(shelf, 0, SHELVES - 1);
    }

    private boolean isMark(int mark) {
        return within(mark, 0, now.count - 1);
    }

    private boolean isWish(int mark, int who, int n) {
        return isMark(mark) && isOne(who) && within(n, 0, MOST_WANTED);
    }

    private boolean isRowPart(int i, int what) {
        return within(i, 0, rowCount - 1) && within(what, 0, ROW_PARTS - 1);
    }

    private static boolean isUnder(int kind, int as) {
        int above = kind;
        for (int i = 0; i < KINDS && isKind(above); i++) {
            if (above == as) {
                return true;
            }
            above = ABOVE[above];
        }
        return false;
    }

    /** How all is: LAWS, HOUR, MARKS, TOUCHES and z. */
    private static final class Port {
        final int[] laws = new int[LAWS];
        final int[] kind = new int[MARKS];
        final int[] ink = new int[MARKS];
        final int[] on = new int[MARKS];
        final int[] first = new int[RESTS];
        final int[] second = new int[RESTS];
        int count;
        int hour;
        int z = 1;
        /** The MARKS that went over in the latest HOUR that was passed on this one, as a set. */
        int went;

        Port() {
            clear();
        }

        /** All but z becomes as at first. */
        void clear() {
            System.arraycopy(LAW_AT_FIRST, 0, laws, 0, LAWS);
            for (int rest = 0; rest < RESTS; rest++) {
                join(rest, NOBODY, NOBODY);
            }
            count = 0;
            hour = 0;
        }

        void become(Port other) {
            System.arraycopy(other.laws, 0, laws, 0, LAWS);
            System.arraycopy(other.kind, 0, kind, 0, MARKS);
            System.arraycopy(other.ink, 0, ink, 0, MARKS);
            System.arraycopy(other.on, 0, on, 0, MARKS);
            System.arraycopy(other.first, 0, first, 0, RESTS);
            System.arraycopy(other.second, 0, second, 0, RESTS);
            count = other.count;
            hour = other.hour;
            z = other.z;
        }

        boolean add(int newKind, int newInk, int who) {
            if (count >= MARKS) {
                return false;
            }
            kind[count] = newKind;
            ink[count] = newInk;
            on[count] = who;
            count++;
            return true;
        }

        void join(int rest, int one, int other) {
            first[rest] = one;
            second[rest] = other;
        }

        int restNow() {
            return Math.floorMod(hour, RESTS);
        }

        void passHour() {
            int rest = restNow();
            went = 0;
            if (first[rest] != NOBODY) {
                meet(first[rest], second[rest]);
            }
            hour++;
        }

        void passHourByDraws() {
            int one = draw() % PEOPLE;
            if (draw() % HUNDRED < laws[CHANCE]) {
                int other = draw() % PEOPLE;
                if (other != one) {
                    meet(one, other);
                }
            }
            passHour();
        }

        int draw() {
            z = z * 1103515245 + 12345;
            return z >>> 16;
        }

        void meet(int one, int other) {
            // All that go are found before the first one goes: the rules look at how all is as the HOUR begins.
            went = 0;
            for (int mark = 0; mark < count; mark++) {
                int target = targetOf(mark, one, other);
                if (target != NOBODY && goesTo(mark, target)) {
                    went |= 1 << mark;
                }
            }
            for (int mark = 0; mark < count; mark++) {
                if (has(went, mark)) {
                    on[mark] = on[mark] == one ? other : one;
                    ink[mark] = heldInk(ink[mark] - fading(mark));
                }
            }
        }

        boolean goesNow(int mark) {
            int rest = restNow();
            int target = targetOf(mark, first[rest], second[rest]);
            return target != NOBODY && goesTo(mark, target);
        }

        /** The one that it would go over to if these two touch: nobody if it is ON neither, or if nobody touches. */
        int targetOf(int mark, int one, int other) {
            if (on[mark] == one) {
                return other;
            }
            return on[mark] == other ? one : NOBODY;
        }

        boolean goesTo(int mark, int target) {
            boolean inked = ink[mark] > 0;
            switch (kind[mark]) {
                case SHIP: return inked && loadOf(target) < laws[LOAD];
                case ANCHOR: return inked && loadOf(target) < laws[LOAD] && (hour & 1) == 0;
                case SNAKE: return inked && target > on[mark];
                case DRAGON: return inked && target > on[mark] || ink[mark] >= laws[TIDE];
                case NAME: return inked && !isNameOn(target);
                default: return inked;
            }
        }

        int fading(int mark) {
            int fade = laws[FADE];
            switch (kind[mark]) {
                case SHIP: return fade + 1;
                case ANCHOR: return (fade + 1) * 2;
                case SNAKE: return fade - 2;
                case DRAGON: return fade - 2 - laws[TIDE];
                case NAME: return 0;
                default: return fade;
            }
        }

        int loadOf(int who) {
            int load = 0;
            for (int mark = 0; mark < count; mark++) {
                if (on[mark] == who) {
                    load++;
                }
            }
            return load;
        }

        boolean isNameOn(int who) {
            for (int mark = 0; mark < count; mark++) {
                if (on[mark] == who && kind[mark] == NAME) {
                    return true;
                }
            }
            return false;
        }

        int marksOn(int who) {
            int set = 0;
            for (int mark = 0; mark < count; mark++) {
                if (on[mark] == who) {
                    set |= 1 << mark;
                }
            }
            return set;
        }

        int marked() {
            int set = 0;
            for (int mark = 0; mark < count; mark++) {
                set |= 1 << on[mark];
            }
            return set;
        }

        int dried() {
            int set = 0;
            for (int mark = 0; mark < count; mark++) {
                if (ink[mark] == 0) {
                    set |= 1 << mark;
                }
            }
            return set;
        }

        int allInk() {
            int sum = 0;
            for (int mark = 0; mark < count; mark++) {
                sum += ink[mark];
            }
            return sum;
        }

        int mostOnOne() {
            int most = 0;
            for (int who = 0; who < PEOPLE; who++) {
                most = Math.max(most, loadOf(who));
            }
            return most;
        }

        int touches() {
            int touches = 0;
            for (int rest = 0; rest < RESTS; rest++) {
                if (first[rest] != NOBODY) {
                    touches++;
                }
            }
            return touches;
        }

        int circle(int who) {
            int set = 1 << who;
            // Each round before the last one adds somebody, so as many rounds as there are touches do.
            for (int round = 0; round < RESTS; round++) {
                for (int rest = 0; rest < RESTS; rest++) {
                    if (first[rest] != NOBODY && (has(set, first[rest]) || has(set, second[rest]))) {
                        set |= 1 << first[rest] | 1 << second[rest];
                    }
                }
            }
            return set;
        }

        int circles() {
            int circles = 0;
            for (int who = 0; who < PEOPLE; who++) {
                // A CIRCLE is counted at the least of those in it.
                if ((circle(who) & (1 << who) - 1) == 0) {
                    circles++;
                }
            }
            return circles;
        }

        boolean liesAs(Port other) {
            for (int mark = 0; mark < count; mark++) {
                if (on[mark] != other.on[mark]) {
                    return false;
                }
            }
            return true;
        }

        int rowPart(int mark, int what) {
            switch (what) {
                case 0: return on[mark];
                case 1: return ink[mark];
                default: return has(went, mark) ? 1 : 0;
            }
        }

        int hoursUntilOn(int mark, int who, int most) {
            for (int hours = 0; hours <= most; hours++) {
                if (on[mark] == who) {
                    return hours;
                }
                passHour();
            }
            return NONE;
        }

        int hoursUntilBare(int who, int most) {
            for (int hours = 0; hours <= most; hours++) {
                if (marksOn(who) == 0) {
                    return hours;
                }
                passHour();
            }
            return NONE;
        }

        int hoursUntilDry(int most) {
            for (int hours = 0; hours <= most; hours++) {
                if (allInk() == 0) {
                    return hours;
                }
                passHour();
            }
            return NONE;
        }
    }

    /** THE TAPE, and the reading of its text token by token. */
    private static final class Tape {
        private static final int MOST_BYTES = 200, MOST_DIGITS = 3, INK_AT_FIRST = 9, NOT_AS_TOLD = -1;
        private static final int END = 0, WORD = 1, NUMBER = 2, OTHER = 3;

        final byte[] bytes = new byte[MOST_BYTES];
        int length;
        /** The token looked at: its sort, its first byte's place, the place behind it, the NUMBER that it tells. */
        int token;
        int start;
        int end;
        int value;

        int take(long eight, int n) {
            if (length + n > MOST_BYTES) {
                return FULL;
            }
            for (int i = 0; i < n; i++) {
                bytes[length + i] = (byte) (eight >>> 8 * i);
            }
            length += n;
            return length;
        }

        /** Reads the whole text into an empty port: its FAULT, or -1. */
        int readInto(Port port) {
            end = 0;
            next();
            for (int i = 0; i <= MOST_BYTES && token != END; i++) {
                if (!readOrder(port)) {
                    return start;
                }
            }
            return NOT_AS_TOLD;
        }

        void next() {
            start = end;
            while (start < length && bytes[start] == ' ') {
                start++;
            }
            end = start;
            if (start >= length) {
                token = END;
            } else if (isLetter(bytes[start])) {
                token = WORD;
                while (end < length && isLetter(bytes[end])) {
                    end++;
                }
            } else if (isDigit(bytes[start])) {
                token = NUMBER;
                while (end < length && isDigit(bytes[end])) {
                    end++;
                }
                value = numberTold();
            } else {
                token = OTHER;
                end++;
            }
        }

        static boolean isLetter(byte b) {
            return b >= 'a' && b <= 'z';
        }

        static boolean isDigit(byte b) {
            return b >= '0' && b <= '9';
        }

        int numberTold() {
            if (end - start > MOST_DIGITS) {
                return NOT_AS_TOLD;
            }
            int number = 0;
            for (int i = start; i < end; i++) {
                number = number * 10 + bytes[i] - '0';
            }
            return number;
        }

        // The reading functions leave the token that can't stand there as the one looked at.

        boolean readOrder(Port port) {
            int kind = kindNamed();
            if (kind != NO_KIND) {
                return readMark(port, kind);
            }
            if (isWord("touch")) {
                return readTouch(port);
            }
            int law = lawNamed();
            return law >= 0 && readLaw(port, law);
        }

        boolean readMark(Port port, int kind) {
            if (port.count >= MARKS) {
                return false;
            }
            next();
            if (!readWord("on")) {
                return false;
            }
            int who = readNumber(0, PEOPLE - 1);
            if (who < 0) {
                return false;
            }
            int ink = INK_AT_FIRST;
            if (isWord("ink")) {
                next();
                ink = readNumber(0, MOST_INK);
            }
            return ink >= 0 && readSign(';') && port.add(kind, ink, who);
        }

        boolean readTouch(Port port) {
            next();
            int rest = readNumber(0, RESTS - 1);
            if (rest < 0 || !readSign(':')) {
                return false;
            }
            int one = readNumber(0, PEOPLE - 1);
            if (one < 0 || !readWord("with") || token == NUMBER && value == one) {
                return false;
            }
            int other = readNumber(0, PEOPLE - 1);
            if (other < 0 || !readSign(';')) {
                return false;
            }
            port.join(rest, one, other);
            return true;
        }

        boolean readLaw(Port port, int law) {
            next();
            int v = readNumber(LAW_LEAST[law], LAW_MOST[law]);
            if (v < 0 || !readSign(';')) {
                return false;
            }
            port.laws[law] = v;
            return true;
        }

        int kindNamed() {
            if (isWord("mark")) {
                return 0;
            }
            if (isWord("ship")) {
                return SHIP;
            }
            if (isWord("snake")) {
                return SNAKE;
            }
            if (isWord("anchor")) {
                return ANCHOR;
            }
            if (isWord("dragon")) {
                return DRAGON;
            }
            return isWord("name") ? NAME : NO_KIND;
        }

        int lawNamed() {
            if (isWord("load")) {
                return LOAD;
            }
            if (isWord("fade")) {
                return FADE;
            }
            if (isWord("tide")) {
                return TIDE;
            }
            return isWord("chance") ? CHANCE : NOT_AS_TOLD;
        }

        boolean isWord(String word) {
            if (token != WORD || end - start != word.length()) {
                return false;
            }
            for (int i = 0; i < word.length(); i++) {
                if (bytes[start + i] != word.charAt(i)) {
                    return false;
                }
            }
            return true;
        }

        boolean readWord(String word) {
            boolean there = isWord(word);
            if (there) {
                next();
            }
            return there;
        }

        boolean readSign(char sign) {
            boolean there = token == OTHER && bytes[start] == sign;
            if (there) {
                next();
            }
            return there;
        }

        int readNumber(int least, int most) {
            if (token != NUMBER || !within(value, least, most)) {
                return NOT_AS_TOLD;
            }
            int number = value;
            next();
            return number;
        }
    }

    /** A SHEET: its items stand as they are when narrowed to its sort. */
    private static final class Sheet {
        final long[] items = new long[ITEMS];
        int sort = MISSING;
        int size;

        void become(int newSort, int newSize) {
            for (int i = 0; i < ITEMS; i++) {
                items[i] = 0;
            }
            sort = newSort;
            size = newSize;
        }

        long narrowed(int v) {
            switch (sort) {
                case BYTES: return (byte) v;
                case SHORTS: return (short) v;
                default: return v;
            }
        }
    }

    /** A SHELF: of a row it holds what can be asked of it, its sort and size, which the row never changes. */
    private static final class Shelf {
        int holding = EMPTY;
        int number;
        int sort;
        int size;

        void holdMark(int mark) {
            holding = A_MARK;
            number = mark;
        }

        void holdRow(Sheet sheet) {
            holding = sheet.sort == MISSING ? EMPTY : A_ROW;
            sort = sheet.sort;
            size = sheet.size;
        }
    }

    /** The latest act() and its TRACE. */
    private static final class Deed {
        private static final int TRACED = 30, DEEPEST = 40;
        /** By KIND and ACT: the body that the KIND itself has, or 0. */
        private static final int[] BODIES = {
            10, 11, 12, 13,
            0, 20, 0, 0,
            30, 0, 0, 31,
            51, 0, 50, 0,
            40, 41, 0, 0,
            0, 0, 61, 60,
        };

        final int[] bodies = new int[TRACED];
        int ran;
        int number;
        int on;
        int kind;
        boolean partedBy0;

        void forget() {
            ran = 0;
            partedBy0 = false;
        }

        int doAct(int mark, int who, int kindOfMark, int act, int x) {
            number = mark;
            on = who;
            kind = kindOfMark;
            int answer = run(this, kind, act, x, 0);
            return partedBy0 ? PARTED_BY_0 : answer;
        }

        /** Runs the body of an ACT that a KIND has, or the next one above it; x is the ACT's number. */
        private static int run(Deed deed, int from, int act, int x, int depth) {
            int holder = withBody(from, act);
            if (deed.partedBy0 || holder == NO_KIND || depth > DEEPEST) {
                return 0;
            }
            int body = BODIES[holder * ACTS + act];
            deed.note(body);
            int own = deed.kind;
            int up = ABOVE[holder];
            int deeper = depth + 1;
            switch (body) {
                case 10: return x * 3 + deed.number * 2;
                case 11: return run(deed, own, ITCHES, x, deeper) - deed.on;
                case 12: return deed.parted(x);
                case 13: return run(deed, own, CRAWLS, x, deeper) ^ 120;
                case 20: return run(deed, up, CRAWLS, x, deeper) * 4;
                case 30: return 0 - run(deed, up, ITCHES, x, deeper);
                case 31: return run(deed, up, BITES, x, deeper) + run(deed, own, PARTS, deed.number, deeper);
                case 40: return run(deed, up, ITCHES, x, deeper) ^ 9;
                case 41: return run(deed, up, CRAWLS, x, deeper) + run(deed, own, ITCHES, deed.on, deeper);
                case 50: return run(deed, up, PARTS, x * 2, deeper) - 3;
                case 51: return run(deed, up, ITCHES, x, deeper) + deed.on;
                case 60: return 7 - run(deed, up, BITES, x, deeper);
                case 61: return run(deed, up, PARTS, x, deeper) - run(deed, own, ITCHES, deed.number, deeper);
                default: return 0;
            }
        }

        private static int withBody(int from, int act) {
            int kind = from;
            for (int i = 0; i < KINDS && isKind(kind); i++) {
                if (BODIES[kind * ACTS + act] != 0) {
                    return kind;
                }
                kind = ABOVE[kind];
            }
            return NO_KIND;
        }

        private void note(int body) {
            if (ran < TRACED) {
                bodies[ran] = body;
                ran++;
            }
        }

        private int parted(int x) {
            if (on == number) {
                partedBy0 = true;
                return 0;
            }
            return x / (on - number);
        }
    }
}
