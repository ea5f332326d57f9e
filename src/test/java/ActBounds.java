/** The sentences that name a boundary, of SHELVES, ACTS and THE TRACE: Terms 3, promises 38 to 41. */
final class ActBounds extends Checks {
    private static final int ITCHES = 0, CRAWLS = 1, PARTS = 2, BITES = 3;
    private static final int[] XS = {LEAST, LEAST + 1, -715827883, -7, -1, 0, 1, 8, 715827883, 1 << 30, MOST - 1, MOST};
    /** By KIND and ACT: the bodies that run when none is parted by 0. */
    private static final int[][][] RUN = {
        {{10}, {11, 10}, {12}, {13, 11, 10}},
        {{10}, {20, 11, 10}, {12}, {13, 20, 11, 10}},
        {{30, 10}, {11, 30, 10}, {12}, {31, 13, 11, 30, 10, 12}},
        {{51, 10}, {20, 11, 51, 10}, {50, 12}, {13, 20, 11, 51, 10}},
        {{40, 30, 10}, {41, 11, 40, 30, 10, 40, 30, 10}, {12}, {31, 13, 41, 11, 40, 30, 10, 40, 30, 10, 12}},
        {{10}, {11, 10}, {61, 12, 10}, {60, 13, 11, 10}},
    };

    static void run() {
        shelfCall();
        shelvesByNumber();
        takenCall();
        intsThatWrap();
        cutTowards0();
        partedBy0();
        actCall();
        traceCall();
    }

    /** One of a KIND, of a number and ON one, alone on SHELF 0; those before it are marks ON 0. */
    private static TravelMarks acting(int kind, int number, int on) {
        TravelMarks x = new TravelMarks();
        for (int i = 0; i < number; i++) {
            x.mark(MARK, 0, 0);
        }
        x.mark(kind, 5, on);
        x.shelf(0, 0, number);
        return x;
    }

    // ---- SHELVES

    private static void shelfCall() {
        sentence(38, "A SHELF holds one of the MARKS (what 0, its number n), the row of SHEET n (1; nothing, if missing), nothing (2): 1.");
        TravelMarks x = told("mark on 0;".repeat(8));
        for (int shelf = 0; shelf < 4; shelf++) {
            due(x.taken(shelf, 0), NOTHING);
            due(x.shelf(shelf, 0, 0), 1);
            due(x.taken(shelf, 0), 0);
            due(x.shelf(shelf, 0, 7), 1);
            due(x.taken(shelf, 0), 7);
            due(x.shelf(shelf, 1, shelf), 1);
            due(x.taken(shelf, 0), NOTHING);
            x.sheet(shelf, shelf, 40);
            due(x.shelf(shelf, 1, shelf), 1);
            due(x.taken(shelf, 10 + shelf), 40);
            due(x.shelf(shelf, 2, 0), 1);
            due(x.taken(shelf, 10 + shelf), NOTHING);
        }
        dueAll(1, x.shelf(0, 2, -1), x.shelf(0, 2, 9), x.shelf(0, 2, LEAST), x.shelf(0, 2, MOST));
        // A SHELF of which the SHEET is missing holds nothing more of what it held.
        x.shelf(0, 0, 3);
        x.sheet(2, -1, 0);
        due(x.shelf(0, 1, 2), 1);
        dueAll(NOTHING, x.taken(0, 0), x.taken(0, 12));

        sentence(38, "BAD: no such SHELF, what, thing.");
        x.shelf(0, 0, 3);
        dueAll(BAD, x.shelf(-1, 2, 0), x.shelf(4, 2, 0), x.shelf(LEAST, 0, 0), x.shelf(MOST, 1, 0), x.shelf(4, 0, 0));
        dueAll(BAD, x.shelf(0, -1, 0), x.shelf(0, 3, 0), x.shelf(0, LEAST, 0), x.shelf(0, MOST, 0));
        dueAll(BAD, x.shelf(0, 0, -1), x.shelf(0, 0, 8), x.shelf(0, 0, LEAST), x.shelf(0, 0, MOST));
        dueAll(BAD, x.shelf(0, 1, -1), x.shelf(0, 1, 4), x.shelf(0, 1, LEAST), x.shelf(0, 1, MOST));
        due(x.taken(0, 0), 3);
        dueAll(BAD, told("mark on 0;").shelf(0, 0, 1), new TravelMarks().shelf(0, 0, 0));
    }

    private static void shelvesByNumber() {
        sentence(TERMS, "(by its number; nothing, if there is no such one at the time), a SHEET's row, or nothing (at first)");
        TravelMarks x = told("ship on 1; dragon on 2;");
        for (int shelf = 0; shelf < 4; shelf++) {
            due(x.taken(shelf, 0), NOTHING);
        }
        x.shelf(0, 0, 1);
        x.mind(1, NAME, 3);
        due(x.taken(0, 5), 1);
        due(x.taken(0, 4), OTHER_SORT);
        due(ported(x, "mark on 1;"), 1);
        dueAll(NOTHING, x.taken(0, 0), x.taken(0, 5), x.taken(0, 10));
        due(x.act(0, 0, 9), 0);
        due(x.many(6), 0);
        x.mark(SNAKE, 1, 1);
        due(x.taken(0, 2), 1);
        // The row is held that the SHEET had then.
        x.sheet(0, 0, 5);
        x.shelf(1, 1, 0);
        x.put(0, 4, 9);
        due(x.taken(1, 10), 5);
        x.sheet(0, 3, 7);
        due(x.taken(1, 10), 5);
        due(x.taken(1, 13), OTHER_SORT);
        x.sheet(0, -1, 0);
        due(x.taken(1, 10), 5);
    }

    private static void takenCall() {
        sentence(39, "taken for a thing of KIND as (0 to 5, or one under it): its number");
        boolean[][] under = {
            {true, false, false, false, false, false}, {true, true, false, false, false, false},
            {true, false, true, false, false, false}, {true, true, false, true, false, false},
            {true, false, true, false, true, false}, {true, false, false, false, false, true},
        };
        for (int kind = 0; kind < 6; kind++) {
            TravelMarks x = acting(kind, kind + 2, 1);
            for (int as = 0; as < 6; as++) {
                due(x.taken(0, as), under[kind][as] ? kind + 2 : OTHER_SORT);
            }
        }

        sentence(39, "for a row of sort as - 10 (as 10 to 13): how many items");
        TravelMarks x = told("mark on 0;");
        int[] sizes = {0, 1, 39, 40};
        for (int sort = 0; sort < 4; sort++) {
            x.sheet(sort, sort, sizes[sort]);
            x.shelf(sort, 1, sort);
            for (int as = 10; as <= 13; as++) {
                due(x.taken(sort, as), as - 10 == sort ? sizes[sort] : OTHER_SORT);
            }
        }

        sentence(39, "BAD: no such SHELF, as; -11; -13.");
        x.shelf(1, 0, 0);
        x.shelf(2, 2, 0);
        dueAll(BAD, x.taken(-1, 0), x.taken(4, 0), x.taken(LEAST, 0), x.taken(MOST, 10), x.taken(4, 99));
        for (int shelf = 0; shelf < 3; shelf++) {
            dueAll(BAD, x.taken(shelf, -1), x.taken(shelf, 6), x.taken(shelf, 7), x.taken(shelf, 8), x.taken(shelf, 9));
            dueAll(BAD, x.taken(shelf, 14), x.taken(shelf, LEAST), x.taken(shelf, MOST));
        }
        for (int as = 0; as < 14; as = as == 5 ? 10 : as + 1) {
            due(x.taken(0, as), as == 10 ? 0 : OTHER_SORT);
            due(x.taken(1, as), as == 0 ? 0 : OTHER_SORT);
            due(x.taken(2, as), NOTHING);
        }
    }

    // ---- ACTS: what is due, written with longs and with a case for each KIND

    private static int itches(int kind, int n, int a, int x) {
        int itches = (int) (x * 3L + n * 2L);
        switch (kind) {
            case SNAKE: return (int) (0L - itches);
            case DRAGON: return (int) (0L - itches) ^ 9;
            case ANCHOR: return (int) (itches + (long) a);
            default: return itches;
        }
    }

    private static int crawls(int kind, int n, int a, int x) {
        int crawls = (int) (itches(kind, n, a, x) - (long) a);
        switch (kind) {
            case SHIP:
            case ANCHOR: return (int) (crawls * 4L);
            case DRAGON: return (int) (crawls + (long) itches(kind, n, a, a));
            default: return crawls;
        }
    }

    private static int parts(int kind, int n, int a, int x) {
        switch (kind) {
            case ANCHOR: return (int) ((int) ((int) (x * 2L) / (long) (a - n)) - 3L);
            case NAME: return (int) ((int) ((long) x / (a - n)) - (long) itches(kind, n, a, n));
            default: return (int) ((long) x / (a - n));
        }
    }

    private static int bites(int kind, int n, int a, int x) {
        int bites = crawls(kind, n, a, x) ^ 120;
        switch (kind) {
            case SNAKE:
            case DRAGON: return (int) (bites + (long) parts(kind, n, a, n));
            case NAME: return (int) (7L - bites);
            default: return bites;
        }
    }

    private static void dueActs(int kind, int n, int a) {
        TravelMarks port = acting(kind, n, a);
        for (int x : XS) {
            due(port.act(0, ITCHES, x), itches(kind, n, a, x));
            due(port.act(0, CRAWLS, x), crawls(kind, n, a, x));
            due(port.act(0, PARTS, x), parts(kind, n, a, x));
            due(port.act(0, BITES, x), bites(kind, n, a, x));
        }
    }

    private static void intsThatWrap() {
        sentence(TERMS, "with a number x (ints that wrap)");
        for (int kind = 0; kind < 6; kind++) {
            for (int n = 0; n < 8; n++) {
                for (int a = 0; a < 8; a++) {
                    if (a != n) dueActs(kind, n, a);
                }
            }
        }
        // The least int, where each of these goes round.
        due(acting(MARK, 0, 3).act(0, ITCHES, LEAST), LEAST);
        due(acting(MARK, 0, 3).act(0, CRAWLS, LEAST), MOST - 2);
        due(acting(MARK, 1, 0).act(0, PARTS, LEAST), LEAST);
        due(acting(SHIP, 1, 4).act(0, CRAWLS, MOST), -20);
        due(acting(SNAKE, 2, 5).act(0, ITCHES, -715827884), LEAST);
        due(acting(ANCHOR, 3, 4).act(0, PARTS, 1 << 30), MOST - 2);
        due(acting(NAME, 5, 6).act(0, PARTS, LEAST), MOST - 24);
    }

    private static void cutTowards0() {
        sentence(TERMS, "Quotients are cut towards 0.");
        TravelMarks x = acting(MARK, 3, 5);
        due(x.act(0, PARTS, 7), 3);
        due(x.act(0, PARTS, -7), -3);
        due(x.act(0, PARTS, 1), 0);
        due(x.act(0, PARTS, -1), 0);
        x.move(3, 1);
        due(x.act(0, PARTS, 7), -3);
        due(x.act(0, PARTS, -7), 3);
        due(x.act(0, PARTS, LEAST), 1 << 30);
        due(x.act(0, PARTS, MOST), -MOST / 2);
    }

    private static void partedBy0() {
        sentence(TERMS, "(-15 if these are the same; that is all that act() answers then)");
        for (int kind = 0; kind < 6; kind++) {
            for (int n = 0; n < 8; n++) {
                TravelMarks x = acting(kind, n, n);
                due(x.act(0, PARTS, 1000), PARTED_BY_0);
                due(x.act(0, PARTS, 0), PARTED_BY_0);
                boolean bitesByParts = kind == SNAKE || kind == DRAGON;
                due(x.act(0, BITES, 1000), bitesByParts ? PARTED_BY_0 : bites(kind, n, n, 1000));
                due(x.act(0, ITCHES, 1000), itches(kind, n, n, 1000));
                due(x.act(0, CRAWLS, 1000), crawls(kind, n, n, 1000));
                x.move(n, n == 0 ? 7 : n - 1);
                due(x.act(0, PARTS, 1000), parts(kind, n, n == 0 ? 7 : n - 1, 1000));
            }
        }
        // Such an answer may be an ACT's own, too.
        due(acting(MARK, 0, 1).act(0, PARTS, -15), -15);
        due(acting(MARK, 0, 0).act(0, ITCHES, -5), -15);
    }

    private static void actCall() {
        sentence(40, "An ACT (0 to 3) of the thing on a SHELF, with x.");
        TravelMarks x = told("mark on 3; ship on 4; snake on 5;");
        for (int shelf = 0; shelf < 4; shelf++) {
            x.shelf(shelf, 0, shelf % 3);
        }
        due(x.act(0, ITCHES, 5), 15);
        due(x.act(1, CRAWLS, 5), 52);
        due(x.act(2, BITES, 5), -112);
        due(x.act(3, BITES, 5), 116);

        sentence(40, "0, and no TRACE then: no such SHELF, act, nothing, a row.");
        x.sheet(0, 0, 4);
        x.shelf(0, 1, 0);
        x.shelf(1, 2, 0);
        int[][] none = {{-1, 0}, {4, 0}, {LEAST, 0}, {MOST, 0}, {2, -1}, {2, 4}, {2, LEAST}, {2, MOST}, {1, 0}, {0, 0}, {0, 3}, {4, 4}};
        for (int[] no : none) {
            due(x.act(2, BITES, 5), -112);
            due(x.many(6), 6);
            due(x.act(no[0], no[1], 5), 0);
            dueTrace(x);
        }
    }

    // ---- THE TRACE

    private static void traceCall() {
        sentence(TERMS, "THE TRACE: numbers of the bodies that ran in the latest act(), as they began (left first)");
        dueTrace(new TravelMarks());
        for (int kind = 0; kind < 6; kind++) {
            TravelMarks x = acting(kind, kind, 7);
            for (int act = 0; act < 4; act++) {
                x.act(0, act, 5);
                dueTrace(x, RUN[kind][act]);
            }
            // Those that began till one was parted by 0, and it.
            x.move(kind, kind);
            x.act(0, PARTS, 5);
            dueTrace(x, kind == ANCHOR ? new int[] {50, 12} : kind == NAME ? new int[] {61, 12} : new int[] {12});
            x.act(0, BITES, 5);
            dueTrace(x, RUN[kind][BITES]);
        }

        sentence(TERMS, "the first 30 are kept");
        TravelMarks x = acting(DRAGON, 4, 6);
        x.act(0, BITES, 5);
        due(x.many(6), 11);
        due(x.trace(0), 31);
        due(x.trace(10), 12);

        sentence(41, "THE TRACE's i-th body. NONE.");
        due(x.trace(5), 30);
        dueAll(NONE, x.trace(-1), x.trace(11), x.trace(12), x.trace(29), x.trace(30), x.trace(LEAST), x.trace(MOST));
        x.act(0, PARTS, 5);
        due(x.trace(0), 12);
        dueAll(NONE, x.trace(1), x.trace(10), x.trace(-1));
        x.act(0, 4, 5);
        dueAll(NONE, x.trace(0), x.trace(1));
        due(new TravelMarks().trace(0), NONE);
    }
}
