/** The sentences that name a boundary, of ROWS, SHEETS, what is counted and what is kept: promises 30 to 37, 42 to 44. */
final class RowBounds extends Checks {

    static void run() {
        proveCall();
        rowCalls();
        judgeCall();
        mindsCall();
        mindsRefuses();
        sheetCall();
        putCall();
        itemCall();
        manyCall();
        keepCall();
        againCall();
        callsOfOneObject();
    }

    // ---- ROWS

    private static TravelMarks proving() {
        return told("mark on 0 ink 3; mark on 2 ink 9; touch 0:0 with 1; touch 1:2 with 3; touch 2:1 with 2;");
    }

    private static void proveCall() {
        sentence(30, "ROWS of one by n HOURS (1 to 10): how many.");
        TravelMarks x = proving();
        dueAll(BAD, x.prove(0, 0), x.prove(0, 11));
        due(x.many(4), 0);
        due(x.prove(0, 10), 10);
        due(x.many(4), 10);
        dueRow(x, 9, 3, 0, 0);
        dueRow(x, 10, NO_ROW, NO_ROW, NO_ROW);
        due(x.prove(0, 1), 1);
        due(x.many(4), 1);
        dueRow(x, 1, NO_ROW, NO_ROW, NO_ROW);

        sentence(30, "BAD.");
        dueAll(BAD, x.prove(-1, 1), x.prove(2, 1), x.prove(8, 1), x.prove(LEAST, 1), x.prove(MOST, 1));
        dueAll(BAD, x.prove(0, -1), x.prove(0, LEAST), x.prove(0, MOST));

        sentence(TERMS, "(ON whom it is, INK, 1 if it went over in that HOUR, else 0) behind 1, 2, .. n HOURS, tried");
        x = proving();
        x.prove(0, 10);
        dueRow(x, 0, 1, 2, 1);
        dueRow(x, 1, 1, 2, 0);
        dueRow(x, 2, 2, 1, 1);
        dueRow(x, 6, 2, 1, 0);
        dueRow(x, 7, 3, 0, 1);
        dueRow(x, 8, 3, 0, 0);
        dueMark(x, 0, MARK, 3, 0);
        due(x.state(0), 0);
        // It went over, though its INK and then its place are as before.
        x = told("mark on 0 ink 9; touch 0:0 with 1; touch 1:0 with 1; fade 0;");
        x.prove(0, 3);
        dueRow(x, 0, 1, 9, 1);
        dueRow(x, 1, 0, 9, 1);
        dueRow(x, 2, 0, 9, 0);
    }

    private static void rowCalls() {
        sentence(31, "what = 0 ON whom, 1 INK, 2 whether it went over");
        TravelMarks x = proving();
        x.prove(0, 3);
        dueRow(x, 0, 1, 2, 1);
        dueRow(x, 2, 2, 1, 1);

        sentence(31, "-9: there is none such, another what.");
        dueAll(NO_ROW, x.row(-1, 0), x.row(3, 0), x.row(10, 0), x.row(LEAST, 0), x.row(MOST, 0), x.row(-1, 2));
        dueAll(NO_ROW, x.row(0, -1), x.row(0, 3), x.row(2, 3), x.row(0, LEAST), x.row(0, MOST), x.row(1, -1));
        TravelMarks none = proving();
        dueAll(NO_ROW, none.row(0, 0), none.alterRow(0, 0, 1));
        due(none.many(4), 0);

        sentence(32, "It becomes v: what it was.");
        due(x.alterRow(0, 0, LEAST), 1);
        due(x.alterRow(0, 0, MOST), LEAST);
        due(x.alterRow(2, 2, -1), 1);
        due(x.alterRow(2, 2, -9), -1);
        dueRow(x, 0, MOST, 2, 1);
        dueRow(x, 1, 1, 2, 0);
        dueRow(x, 2, 2, 1, -9);

        sentence(32, "-9 likewise.");
        dueAll(NO_ROW, x.alterRow(-1, 0, 5), x.alterRow(3, 0, 5), x.alterRow(LEAST, 0, 5), x.alterRow(MOST, 0, 5));
        dueAll(NO_ROW, x.alterRow(0, -1, 5), x.alterRow(0, 3, 5), x.alterRow(1, -1, 5), x.alterRow(2, 3, 5));
        dueAll(NO_ROW, x.alterRow(0, LEAST, 5), x.alterRow(0, MOST, 5), x.alterRow(3, 3, 5), x.alterRow(-1, 2, 5));
        dueRow(x, 0, MOST, 2, 1);
        dueRow(x, 1, 1, 2, 0);
    }

    private static void judgeCall() {
        sentence(33, "0 all is right (also if there are none)");
        TravelMarks x = proving();
        dueAll(0, x.judge(0), x.judge(1));
        x.prove(0, 10);
        due(x.judge(0), 0);

        sentence(33, "else the first ROW that isn't, and 1 more");
        for (int i = 9; i >= 0; i--) {
            for (int what = 0; what < 3; what++) {
                int was = x.alterRow(i, what, x.row(i, what) + 1);
                due(x.judge(0), i + 1);
                x.alterRow(i, what, was);
            }
            due(x.judge(0), 0);
        }
        x.alterRow(9, 0, -1);
        x.alterRow(8, 0, -1);
        due(x.judge(0), 9);
        x.alterRow(0, 2, 0);
        due(x.judge(0), 1);

        sentence(33, "BAD.");
        dueAll(BAD, x.judge(-1), x.judge(2), x.judge(8), x.judge(LEAST), x.judge(MOST));
        due(new TravelMarks().judge(0), BAD);

        sentence(TERMS, "THE READER takes ROWS as those of one, from how it is now: right is one that is as it must be.");
        x = proving();
        x.prove(0, 3);
        due(x.judge(1), 1);
        x.move(1, 0);
        x.mind(1, MARK, 3);
        due(x.judge(1), 0);
        x.hours(1);
        due(x.judge(0), 1);
        // Each one is held against what must be, not against the one before it.
        x = proving();
        x.prove(0, 3);
        x.alterRow(0, 1, 50);
        x.alterRow(1, 1, 50);
        x.alterRow(2, 1, 49);
        due(x.judge(0), 1);
        x.alterRow(0, 1, 2);
        due(x.judge(0), 2);
    }

    // ---- SHEETS

    private static TravelMarks eight() {
        return told("mark on 0;mark on 1;mark on 2;mark on 3;mark on 4;mark on 5;mark on 6;mark on 7;");
    }

    private static void dueInks(TravelMarks x, int... inks) {
        for (int i = 0; i < inks.length; i++) {
            due(x.of(i, 1), inks[i]);
        }
    }

    private static void mindsCall() {
        sentence(34, "n numbers (0 to 8) of a SHEET taken for bytes, from i on, become INK of MARKS from one on");
        TravelMarks x = eight();
        sheetOf(x, 0, 0, 1, 2, 3, 4, 5, 6, 7, 8, 90);
        due(x.minds(0, 0, 0, 0), 0);
        due(x.minds(0, 9, 7, 0), 0);
        dueInks(x, 9, 9, 9, 9, 9, 9, 9, 9);
        due(x.minds(0, 0, 0, 8), 8);
        dueInks(x, 1, 2, 3, 4, 5, 6, 7, 8);
        due(x.minds(0, 8, 7, 1), 1);
        due(x.minds(0, 7, 0, 2), 2);
        dueInks(x, 8, 90, 3, 4, 5, 6, 7, 90);
        dueMark(x, 1, MARK, 90, 1);

        sentence(34, "(held to 0 to 99): n");
        sheetOf(x, 0, 0, -1, 0, 99, 100, 127, -128, 128, 255);
        due(x.minds(0, 0, 0, 8), 8);
        dueInks(x, 0, 0, 99, 99, 99, 0, 0, 0);
    }

    private static void mindsRefuses() {
        sentence(34, "BAD: no such SHEET, one, n, or n goes beyond the last one");
        TravelMarks x = told("mark on 0;mark on 1;mark on 2;");
        sheetOf(x, 0, 0, 1, 2, 3, 4, 5, 6, 7, 8, 9);
        dueAll(BAD, x.minds(-1, 0, 0, 1), x.minds(4, 0, 0, 1), x.minds(LEAST, 0, 0, 1), x.minds(MOST, 0, 0, 1));
        dueAll(BAD, x.minds(0, 0, -1, 1), x.minds(0, 0, 3, 0), x.minds(0, 0, 8, 0), x.minds(0, 0, LEAST, 1));
        dueAll(BAD, x.minds(0, 0, 0, -1), x.minds(0, 0, 0, LEAST), x.minds(0, 0, MOST, 1), x.minds(0, 0, 2, MOST));
        dueAll(BAD, x.minds(0, 0, 0, 4), x.minds(0, 0, 1, 3), x.minds(0, 0, 2, 2), x.minds(0, 0, 0, 8));
        // These stand before a place outside.
        dueAll(BAD, x.minds(0, -1, 3, 1), x.minds(0, 10, 0, -1), x.minds(0, -1, 0, 9), x.minds(0, 10, 0, 4), x.minds(0, 9, 2, 2));
        dueInks(x, 9, 9, 9);
        due(x.minds(0, 0, 0, 3), 3);
        due(x.minds(0, 0, 2, 1), 1);
        due(eight().minds(0, 0, 0, 9), BAD);
        due(new TravelMarks().minds(0, 0, 0, 0), BAD);

        sentence(34, "-11; -13; -12");
        x = told("mark on 0;mark on 1;mark on 2;");
        for (int sort = 1; sort < 4; sort++) {
            x.sheet(sort, sort, 5);
            dueAll(OTHER_SORT, x.minds(sort, 0, 0, 1), x.minds(sort, 0, 0, 0), x.minds(sort, 6, 0, 1), x.minds(sort, -1, 0, 0));
            dueAll(BAD, x.minds(sort, 0, 3, 0), x.minds(sort, 0, 0, 4), x.minds(sort, 6, 0, 9), x.minds(sort, 6, -1, 0));
        }
        dueAll(NOTHING, x.minds(0, 0, 0, 1), x.minds(0, 0, 0, 0), x.minds(0, -1, 0, 0), x.minds(0, MOST, 0, 3));
        dueAll(BAD, x.minds(0, 0, 3, 0), x.minds(0, 0, 0, 4), x.minds(0, -1, 0, -1), x.minds(4, -1, 0, 0));

        sentence(34, "i is not 0 to how many items there are (also for n 0), or there are not so many");
        x.sheet(0, 0, 5);
        dueAll(OUTSIDE, x.minds(0, -1, 0, 0), x.minds(0, 6, 0, 0), x.minds(0, LEAST, 0, 0), x.minds(0, MOST, 0, 0));
        dueAll(OUTSIDE, x.minds(0, -1, 0, 1), x.minds(0, 5, 0, 1), x.minds(0, 4, 0, 2), x.minds(0, 3, 0, 3), x.minds(0, MOST, 0, 3));
        dueInks(x, 9, 9, 9);
        dueAll(0, x.minds(0, 0, 0, 0), x.minds(0, 5, 2, 0));
        due(x.minds(0, 2, 0, 3), 3);
        x.sheet(0, 0, 0);
        due(x.minds(0, 0, 0, 0), 0);
        dueAll(OUTSIDE, x.minds(0, 0, 0, 1), x.minds(0, 1, 0, 0));
        x.sheet(0, 0, 40);
        due(x.minds(0, 37, 0, 3), 3);
        due(x.minds(0, 40, 0, 0), 0);
        dueAll(OUTSIDE, x.minds(0, 38, 0, 3), x.minds(0, 41, 0, 0));
    }

    private static void sheetCall() {
        sentence(TERMS, "SHEETS 0 to 3 are rows of bytes (sort 0), shorts (1), ints (2) or longs (3), 40 at most, or missing (at first).");
        TravelMarks x = new TravelMarks();
        for (int sheet = 0; sheet < 4; sheet++) {
            for (int sort = 0; sort < 4; sort++) {
                due(x.item(sheet, sort, 0), NOTHING);
            }
            due(x.sheet(sheet, sheet, 40), 1);
            due(x.item(sheet, sheet, 39), 0);
            due(x.item(sheet, sheet, 40), OUTSIDE);
            due(x.put(sheet, 39, 5), 1);
            due(x.item(sheet, sheet, 39), 5);
        }
        dueAll(BAD, x.sheet(-1, 0, 1), x.sheet(4, 0, 1), x.sheet(0, 0, 41), x.sheet(3, 3, 41));

        sentence(35, "A SHEET becomes a row of n of a sort, all 0");
        for (int sort = 0; sort < 4; sort++) {
            for (int i = 0; i < 40; i++) {
                x.put(0, i, -1);
            }
            due(x.sheet(0, sort, 40), 1);
            dueAll(0, x.item(0, sort, 0), x.item(0, sort, 1), x.item(0, sort, 20), x.item(0, sort, 38), x.item(0, sort, 39));
        }
        due(x.sheet(0, 0, 0), 1);
        dueAll(OUTSIDE, x.item(0, 0, 0), x.put(0, 0, 1));
        due(x.sheet(0, 0, 1), 1);
        due(x.item(0, 0, 0), 0);
        due(x.item(0, 0, 1), OUTSIDE);
        due(x.item(1, 1, 39), 5);

        sentence(35, "or missing (sort -1; n counts nothing then): 1");
        int[] any = {0, 40, 41, -1, LEAST, MOST};
        for (int n : any) {
            due(x.sheet(1, 1, 2), 1);
            due(x.sheet(1, -1, n), 1);
            due(x.item(1, 1, 0), NOTHING);
        }

        sentence(35, "BAD: no such SHEET, sort, n above 40; -14.");
        x.sheet(1, 2, 3);
        x.put(1, 2, 77);
        dueAll(BAD, x.sheet(-1, 0, -1), x.sheet(4, 0, -1), x.sheet(LEAST, 0, -1), x.sheet(MOST, 0, -1), x.sheet(4, -1, 0));
        dueAll(BAD, x.sheet(1, -2, -1), x.sheet(1, 4, -1), x.sheet(1, LEAST, -1), x.sheet(1, MOST, -1), x.sheet(-1, -1, 0));
        dueAll(BAD, x.sheet(1, 0, 41), x.sheet(1, 3, 41), x.sheet(1, 2, MOST));
        dueAll(BELOW_0, x.sheet(1, 0, -1), x.sheet(1, 3, -1), x.sheet(1, 2, LEAST));
        due(x.item(1, 2, 2), 77);
        due(x.item(1, 2, 3), OUTSIDE);
    }

    private static void putCall() {
        sentence(36, "Item i becomes v, narrowed to its sort: 1.");
        TravelMarks x = new TravelMarks();
        int[] given = {0, 1, -1, 127, 128, 255, 256, -128, -129, 32767, 32768, 65535, 65536, -32768, -32769, LEAST, MOST};
        for (int v : given) {
            for (int sort = 0; sort < 4; sort++) {
                x.sheet(sort, sort, 1);
                due(x.put(sort, 0, v), 1);
                due(x.item(sort, sort, 0), sort == 0 ? (byte) v : sort == 1 ? (short) v : v);
            }
        }

        sentence(36, "BAD: no such SHEET; -11; -12.");
        dueAll(BAD, x.put(-1, 0, 0), x.put(4, 0, 0), x.put(LEAST, 0, 0), x.put(MOST, 0, 0), x.put(4, 9, 0));
        sheetOf(x, 1, 0, 3, 4);
        dueAll(OUTSIDE, x.put(1, -1, 0), x.put(1, 2, 0), x.put(1, 40, 0), x.put(1, LEAST, 0), x.put(1, MOST, 0));
        due(x.item(1, 0, 0), 3);
        due(x.item(1, 0, 1), 4);
        x.sheet(1, -1, 0);
        dueAll(NOTHING, x.put(1, 0, 0), x.put(1, -1, 0), x.put(1, 40, 0), x.put(1, LEAST, 0), x.put(1, MOST, 0));
    }

    private static void itemCall() {
        sentence(37, "Item i, taken for a sort (0 to 3; of longs the lowest 32 bits).");
        TravelMarks x = new TravelMarks();
        for (int sort = 0; sort < 4; sort++) {
            sheetOf(x, sort, sort, 9, 0, -5);
            due(x.item(sort, sort, 0), 9);
            due(x.item(sort, sort, 2), -5);
            for (int as = 0; as < 4; as++) {
                due(x.item(sort, as, 1), as == sort ? 0 : OTHER_SORT);
            }
        }
        int[] given = {LEAST, MOST, -1, 0};
        for (int v : given) {
            x.put(3, 1, v);
            due(x.item(3, 3, 1), v);
        }

        sentence(37, "BAD: no such SHEET, sort; -11; -13; -12.");
        dueAll(BAD, x.item(-1, 0, 0), x.item(4, 0, 0), x.item(LEAST, 0, 0), x.item(MOST, 0, 0), x.item(4, 4, 9));
        dueAll(BAD, x.item(0, -1, 0), x.item(0, 4, 0), x.item(0, LEAST, 9), x.item(0, MOST, 9));
        dueAll(OUTSIDE, x.item(0, 0, -1), x.item(0, 0, 3), x.item(0, 0, 40), x.item(0, 0, LEAST), x.item(0, 0, MOST));
        dueAll(OTHER_SORT, x.item(0, 1, -1), x.item(0, 2, 3), x.item(0, 3, 40), x.item(0, 1, LEAST), x.item(0, 1, MOST));
        x.sheet(0, -1, 0);
        dueAll(NOTHING, x.item(0, 0, 0), x.item(0, 1, 0), x.item(0, 0, -1), x.item(0, 3, 40), x.item(0, 0, MOST));
        dueAll(BAD, x.item(0, 4, 0), x.item(0, -1, -1));

        sentence(37, "(An item may be as low as these, too.)");
        sheetOf(x, 0, 0, BAD, FULL, NONE, NOTHING, OUTSIDE, OTHER_SORT, BELOW_0, PARTED_BY_0);
        int[] low = {-1, -2, -3, -11, -12, -13, -14, -15};
        for (int i = 0; i < low.length; i++) {
            due(x.item(0, 0, i), low[i]);
        }
    }

    // ---- many, keep, again

    private static void manyCall() {
        TravelMarks none = new TravelMarks();
        TravelMarks all = new TravelMarks();
        for (int i = 0; i < 8; i++) {
            due(all.many(0), i);
            all.mark(MARK, 1, i);
        }
        for (int rest = 0; rest < 6; rest++) {
            all.touch(rest, 0, 7);
        }
        sentence(42, "what = 0 MARKS");
        due(none.many(0), 0);
        due(all.many(0), 8);

        sentence(42, "1 those whose INK is above 0");
        due(none.many(1), 0);
        due(all.many(1), 8);
        all.mind(7, MARK, 0);
        due(all.many(1), 7);

        sentence(42, "2 those of PEOPLE that have a MARK");
        due(none.many(2), 0);
        due(all.many(2), 8);
        all.move(7, 0);
        due(all.many(2), 7);

        sentence(42, "3 rests of HOURS in which two touch");
        due(none.many(3), 0);
        due(all.many(3), 6);
        all.part(5);
        due(all.many(3), 5);

        sentence(42, "4 ROWS");
        due(all.many(4), 0);
        all.prove(0, 10);
        due(all.many(4), 10);

        sentence(42, "5 bytes of THE TAPE");
        due(all.many(5), 0);
        tell(all, " ".repeat(199));
        due(all.many(5), 199);
        tell(all, " ");
        due(all.many(5), 200);

        sentence(42, "6 bodies of THE TRACE (those kept, 30 at most)");
        due(all.many(6), 0);
        all.mind(4, DRAGON, 9);
        all.move(4, 6);
        all.shelf(0, 0, 4);
        all.act(0, 3, 5);
        due(all.many(6), 11);
        all.act(0, 9, 5);
        due(all.many(6), 0);

        sentence(42, "BAD: another what.");
        dueAll(BAD, all.many(-1), all.many(7), all.many(LEAST), all.many(MOST));
    }

    /** All that can be kept, none of it as at first. */
    private static TravelMarks keeping() {
        TravelMarks x = told("name on 3 ink 99; ship on 7 ink 1; touch 1:1 with 2; touch 5:6 with 7; load 8; fade 9; tide 0; chance 99;");
        x.hours(3);
        x.seed(LEAST);
        return x;
    }

    private static void dueKept(TravelMarks x) {
        due(x.many(0), 2);
        dueMark(x, 0, NAME, 99, 3);
        dueMark(x, 1, SHIP, 1, 7);
        due(x.many(3), 2);
        due(x.touchOf(1, 0), 1);
        due(x.touchOf(5, 1), 7);
        int[] laws = {8, 9, 0, 99};
        for (int law = 0; law < 4; law++) {
            due(x.lawOf(law), laws[law]);
        }
        due(x.state(0), 3);
        due(x.seed(LEAST), LEAST);
    }

    private static void keepCall() {
        sentence(43, "All but THE TAPE, ROWS, SHEETS, SHELVES, THE TRACE is kept: 1.");
        TravelMarks x = keeping();
        due(x.keep(), 1);
        dueKept(x);
        due(x.port(), 0);
        x.hours(60);
        due(x.again(), 2);
        dueKept(x);
        // What is not kept stays as it comes to be behind keep(), full or empty.
        tell(x, "load 3");
        x.prove(0, 10);
        sheetOf(x, 3, 1, 7, 8);
        x.shelf(0, 0, 0);
        x.shelf(3, 1, 3);
        x.act(0, 3, 1);
        due(x.again(), 2);
        due(x.many(5), 6);
        due(x.many(4), 10);
        due(x.item(3, 1, 1), 8);
        due(x.taken(0, 5), 0);
        due(x.taken(3, 11), 2);
        dueTrace(x, 60, 13, 11, 10);
        x.keep();
        x.port();
        x.sheet(3, -1, 0);
        x.shelf(0, 2, 0);
        x.shelf(3, 2, 0);
        x.act(0, 0, 0);
        due(x.again(), 2);
        due(x.many(5), 0);
        due(x.item(3, 1, 1), NOTHING);
        dueAll(NOTHING, x.taken(0, 5), x.taken(3, 11));
        dueTrace(x);
        // Of none, too: what was before goes then.
        x = new TravelMarks();
        due(x.keep(), 1);
        x.mark(MARK, 1, 1);
        x.touch(0, 1, 2);
        due(x.again(), 0);
        due(x.many(0), 0);
        due(x.many(3), 0);
    }

    private static void againCall() {
        sentence(44, "It becomes what was kept latest (which stays): how many MARKS.");
        TravelMarks x = told("mark on 1;");
        x.keep();
        x.port();
        x.mark(NAME, 5, 5);
        x.mark(SHIP, 6, 6);
        x.keep();
        x.port();
        for (int round = 0; round < 3; round++) {
            due(x.again(), 2);
            dueMark(x, 0, NAME, 5, 5);
            dueMark(x, 1, SHIP, 6, 6);
            x.mind(0, MARK, 0);
            x.move(1, 0);
            x.mark(MARK, 1, 1);
            x.touch(0, 1, 2);
            x.set(0, 1);
            x.hours(1);
        }
        due(x.again(), 2);
        due(x.many(3), 0);
        due(x.state(0), 0);
        due(x.lawOf(0), 3);

        sentence(44, "NONE: nothing is kept.");
        x = told("mark on 1; touch 0:1 with 2;");
        due(x.again(), NONE);
        due(x.many(0), 1);
        due(x.many(3), 1);
        x.keep();
        due(x.again(), 1);
    }

    private static void callsOfOneObject() {
        sentence(ABOUT, "An object is used for at most 512 calls after it has been made");
        TravelMarks x = new TravelMarks();
        x.mark(NAME, 1, 0);
        x.touch(0, 0, 1);
        for (int i = 2; i < 510; i++) {
            x.hours(1);
        }
        // 508 HOURS, 85 of them with a touch; these are the last two of 512 calls.
        due(x.state(0), 508);
        due(x.of(0, 2), 1);
    }
}
