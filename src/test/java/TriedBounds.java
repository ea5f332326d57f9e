/** The sentences that name a boundary, of what is TRIED: Terms 2, promises 19 to 27. */
final class TriedBounds extends Checks {
    /** A name ON 0 goes up one stair in every fifth HOUR: it comes to 1, 2, .. 6 behind 6, 11, 16, 21, 26, 31. */
    private static final String STAIRS =
        "touch 5:0 with 1;touch 4:1 with 2;touch 3:2 with 3;touch 2:3 with 4;touch 1:4 with 5;touch 0:5 with 6;";
    /** The ship, that fades by 7, comes to 2 by its fifteenth way behind 30 HOURS, and not before. */
    private static final String NEEDS_99 = "ship on 3;mark on 3 ink 53;load 1;fade 6;touch 0:3 with 1;"
        + "touch 1:1 with 0;touch 2:1 with 2;touch 3:4 with 0;touch 4:4 with 3;touch 5:0 with 2;";
    /** The ship, that fades by 9, would come to 1 by its twelfth way. */
    private static final String NEEDS_100 = "ship on 4;name on 0 ink 29;load 1;fade 8;touch 0:3 with 4;"
        + "touch 1:2 with 4;touch 2:2 with 3;touch 3:1 with 0;touch 4:2 with 3;touch 5:1 with 2;";
    /** Only by 1 with 3 in rest 5 the name comes to 3, and that behind 30 HOURS. */
    private static final String TOUCH_BEHIND_30 = "load 1;fade 2;name on 4 ink 3;name on 3 ink 1;name on 5 ink 6;"
        + "dragon on 5 ink 1;touch 0:0 with 4;touch 2:1 with 2;touch 3:1 with 0;touch 4:3 with 5;touch 5:0 with 1;";

    static void run() {
        whereCall();
        comesCall();
        bareCall();
        dryCall();
        kindForCall();
        kindForOfSeveral();
        inkForCall();
        touchForCall();
        touchForOfSeveral();
        apartForCall();
        fitsCall();
        fitsByNumbers();
    }

    private static TravelMarks behind(int hours, String text) {
        TravelMarks x = told(text);
        if (hours > 0) {
            x.hours(hours);
        }
        return x;
    }

    // ---- WHERE, COMES, BARE, DRY

    private static void whereCall() {
        sentence(TERMS, "WHERE of one by n: ON whom it is behind n HOURS.");
        TravelMarks x = told("name on 0;" + STAIRS);
        int[] behind = {0, 6, 11, 16, 21, 26, 31};
        for (int stair = 1; stair <= 6; stair++) {
            due(x.where(0, behind[stair] - 1), stair - 1);
            due(x.where(0, behind[stair]), stair);
        }

        sentence(19, "WHERE of one by n (0 to 60). BAD.");
        x = told("name on 7; name on 0; touch 5:0 with 1;");
        due(x.where(1, 0), 0);
        due(x.where(1, 59), 1);
        due(x.where(1, 60), 0);
        due(x.where(0, 60), 7);
        dueAll(BAD, x.where(1, -1), x.where(1, 61), x.where(1, LEAST), x.where(1, MOST));
        dueAll(BAD, x.where(-1, 0), x.where(2, 0), x.where(8, 0), x.where(LEAST, 0), x.where(MOST, 0));
    }

    private static void comesCall() {
        sentence(TERMS, "COMES of one to one: behind the fewest HOURS (0 to 60) it is ON that one first.");
        TravelMarks x = told("name on 0; touch 0:0 with 7; touch 1:0 with 7; touch 2:0 with 1;");
        due(x.comes(0, 0), 0);
        due(x.comes(0, 7), 1);
        due(x.comes(0, 1), 3);
        due(told(FREE_BEHIND_60).comes(0, 1), 60);
        due(behind(1, FREE_BEHIND_60).comes(0, 1), 59);
        due(behind(1, FREE_BEHIND_61).comes(0, 1), 60);

        sentence(20, "BAD; NONE: not by then.");
        due(told(FREE_BEHIND_61).comes(0, 1), NONE);
        due(x.comes(0, 6), NONE);
        dueAll(BAD, x.comes(-1, 6), x.comes(1, 6), x.comes(8, 6), x.comes(LEAST, 6), x.comes(MOST, 6));
        dueAll(BAD, x.comes(0, -1), x.comes(0, 8), x.comes(0, LEAST), x.comes(0, MOST));
    }

    private static void bareCall() {
        sentence(TERMS, "BARE: behind the fewest (0 to 60) no MARK is ON one first.");
        TravelMarks x = told("mark on 0; mark on 0; mark on 7 ink 0; touch 0:0 with 1; touch 2:2 with 1;");
        due(x.bare(1), 0);
        due(x.bare(0), 1);
        due(told(FREE_BEHIND_60).bare(0), 60);
        due(behind(1, FREE_BEHIND_61).bare(0), 60);
        due(new TravelMarks().bare(0), 0);
        due(new TravelMarks().bare(7), 0);
        // One of two that stays is enough.
        due(told("mark on 0; mark on 0 ink 0; touch 0:0 with 1;").bare(0), NONE);

        sentence(21, "BAD; NONE: not by then.");
        due(told(FREE_BEHIND_61).bare(0), NONE);
        due(x.bare(7), NONE);
        dueAll(BAD, x.bare(-1), x.bare(8), x.bare(LEAST), x.bare(MOST));
    }

    private static void dryCall() {
        sentence(TERMS, "DRY: behind the fewest (0 to 60) INK of all is 0 first.");
        due(new TravelMarks().dry(), 0);
        due(told("mark on 0 ink 0;").dry(), 0);
        due(told("mark on 0 ink 1; touch 0:0 with 1;").dry(), 1);
        due(told("mark on 0 ink 10; touch 5:0 with 1;").dry(), 60);
        due(behind(1, "mark on 0 ink 11; touch 0:0 with 1;").dry(), 60);
        due(told("mark on 0 ink 1; mark on 3 ink 1; touch 0:0 with 1; touch 3:2 with 3;").dry(), 4);

        sentence(22, "NONE: not by then.");
        due(told("mark on 0 ink 11; touch 0:0 with 1;").dry(), NONE);
        due(told("mark on 0 ink 1; mark on 7 ink 1; touch 0:0 with 1;").dry(), NONE);
    }

    // ---- KIND FOR, INK FOR

    private static void dueBadWishes(TravelMarks x, int marks) {
        int[][] bad = {{-1, 0, 0}, {marks, 0, 0}, {8, 0, 0}, {LEAST, 0, 0}, {MOST, 0, 0}, {0, -1, 0}, {0, 8, 0},
            {0, LEAST, 0}, {0, MOST, 0}, {0, 0, -1}, {0, 0, 31}, {0, 0, LEAST}, {0, 0, MOST}, {0, 7, 31}, {marks, 7, 31}};
        for (int[] b : bad) {
            int got = switch (promise) {
                case 23 -> x.kindFor(b[0], b[1], b[2]);
                case 24 -> x.inkFor(b[0], b[1], b[2]);
                case 25 -> x.touchFor(b[0], b[1], b[2]);
                default -> x.apartFor(b[0], b[1], b[2]);
            };
            due("of " + b[0] + ", " + b[1] + ", " + b[2], got, BAD);
        }
    }

    private static void kindForCall() {
        sentence(23, "KIND FOR a MARK and one, n (0 to 30).");
        // A dragon alone goes without INK, by TIDE 0.
        String text = "mark on 0 ink 0;tide 0;" + STAIRS;
        due(told(text).kindFor(0, 6, 30), MARK);
        due(behind(1, text).kindFor(0, 6, 29), MARK);
        due(behind(1, text).kindFor(0, 6, 30), DRAGON);
        due(told("dragon on 6 ink 0;").kindFor(0, 6, 0), MARK);

        sentence(23, "BAD.");
        dueBadWishes(told("mark on 0;"), 1);

        sentence(TERMS, "(not within n HOURS: later than all)");
        TravelMarks x = told("name on 0 ink 0; tide 0; touch 3:0 with 1;");
        due(x.kindFor(0, 1, 3), MARK);
        due(x.kindFor(0, 1, 4), DRAGON);
        due(x.kindFor(0, 1, 0), MARK);
        due(x.kindFor(0, 2, 30), MARK);
    }

    private static void kindForOfSeveral() {
        sentence(TERMS, "the KIND as one of which it COMES to that one soonest");
        // As a mark it goes to 1 first and comes to 7 later; as a snake or a dragon of little INK it waits for 7.
        TravelMarks x = told("mark on 5 ink 4; touch 0:5 with 1; touch 1:5 with 7; touch 2:1 with 7;");
        due(x.kindFor(0, 7, 30), SNAKE);
        due(x.kindFor(0, 7, 3), SNAKE);
        due(x.kindFor(0, 7, 2), SNAKE);
        due(x.kindFor(0, 7, 1), MARK);

        sentence(TERMS, "of several the least. INK FOR");
        for (int kind = 0; kind < 6; kind++) {
            due(told(KINDS[kind] + " on 0; touch 0:0 with 1;").kindFor(0, 1, 30), MARK);
            due(told(KINDS[kind] + " on 0;").kindFor(0, 0, 0), MARK);
        }
        // A ship and an anchor find no room on 1, and so they wait for 7: the lesser of them.
        x = told("mark on 5 ink 4; snake on 1 ink 0; touch 0:5 with 1; touch 2:5 with 0; load 1;");
        due(x.kindFor(0, 0, 5), SHIP);
        // A name finds a name there; an anchor alone waits in an odd HOUR.
        x = told("mark on 5 ink 4; name on 6 ink 0; touch 0:5 with 6; touch 1:5 with 0;");
        due(x.kindFor(0, 0, 5), NAME);
        x = behind(1, "mark on 5 ink 4; touch 1:5 with 6; touch 2:5 with 0;");
        due(x.kindFor(0, 0, 5), ANCHOR);
    }

    private static void inkForCall() {
        sentence(24, "INK FOR a MARK and one, n (0 to 30).");
        String text = "name on 0 ink 0;" + STAIRS;
        due(told(text).inkFor(0, 6, 30), NONE);
        due(behind(1, text).inkFor(0, 6, 29), NONE);
        due(behind(1, text).inkFor(0, 6, 30), 1);
        due(told("mark on 6;").inkFor(0, 6, 0), 0);

        sentence(24, "BAD; NONE: with none.");
        due(told("mark on 0; touch 0:0 with 1;").inkFor(0, 1, 0), NONE);
        due(told("mark on 0; touch 0:0 with 1;").inkFor(0, 7, 30), NONE);
        dueBadWishes(told("mark on 0;"), 1);

        sentence(TERMS, "the least INK (0 to 99) with which it COMES to that one within n HOURS");
        due(told("dragon on 0 ink 50; tide 0; touch 0:0 with 1;").inkFor(0, 1, 1), 0);
        due(told("mark on 0 ink 50; touch 0:0 with 1;").inkFor(0, 1, 1), 1);
        due(told("dragon on 6 ink 1; tide 9; touch 0:6 with 1;").inkFor(0, 1, 1), 9);
        TravelMarks x = told(NEEDS_99);
        due(x.inkFor(0, 2, 30), 99);
        due(x.inkFor(0, 2, 29), NONE);
        x = told(NEEDS_100);
        due(x.inkFor(0, 1, 30), NONE);
        x.set(1, 7);
        due(x.inkFor(0, 1, 30), 89);
    }

    // ---- TOUCH FOR, APART FOR

    private static void touchForCall() {
        sentence(25, "TOUCH FOR a MARK and one, n (0 to 30)");
        TravelMarks x = told(TOUCH_BEHIND_30);
        due(x.touchFor(0, 3, 30), 513);
        due(x.touchFor(0, 3, 29), NONE);
        due(told("mark on 0;").touchFor(0, 1, 1), 1);
        due(told("mark on 0;").touchFor(0, 1, 0), NONE);

        sentence(25, "100 times its rest, 10 times the least number, and the other one");
        due(told("mark on 0;").touchFor(0, 1, 30), 1);
        due(told("mark on 7;").touchFor(0, 6, 30), 67);
        due(told("mark on 7;").touchFor(0, 0, 30), 7);
        due(behind(5, "mark on 7;").touchFor(0, 6, 1), 567);
        due(behind(5, "mark on 1;").touchFor(0, 0, 1), 501);

        sentence(25, "BAD; NONE: by none.");
        due(told("mark on 0;").touchFor(0, 0, 30), NONE);
        due(told("mark on 0 ink 0;").touchFor(0, 3, 30), NONE);
        dueBadWishes(told("mark on 0;"), 1);

        sentence(TERMS, "set in place of what there is in HOURS of its rest");
        // 1 with 3 in rest 0 takes the way to 1 away: 0 with 3 alone is sooner than behind 3.
        x = told("mark on 0; touch 0:0 with 1; touch 2:1 with 3;");
        due(x.touchFor(0, 3, 30), 3);
        // The name ON 3 leaves by rest 0: that one is not to be replaced.
        x = told("name on 0; name on 3; touch 0:3 with 5;");
        due(x.touchFor(0, 3, 30), 103);

        sentence(TERMS, "within n HOURS and sooner than as it is");
        x = told("mark on 0; touch 0:0 with 3;");
        due(x.touchFor(0, 3, 30), NONE);
        x = told("mark on 0; touch 1:0 with 3;");
        due(x.touchFor(0, 3, 30), 3);
        due(x.touchFor(0, 3, 1), 3);
        x = behind(1, "anchor on 0; touch 2:0 with 3;");
        due(x.touchFor(0, 3, 30), NONE);
        x.part(2);
        due(x.touchFor(0, 3, 30), 203);
        due(x.touchFor(0, 3, 2), 203);
        due(x.touchFor(0, 3, 1), NONE);
    }

    private static void touchForOfSeveral() {
        // A ship finds no room on 3 till the one that is there goes: by rest 0, 1 or 2 it comes there all the same.
        sentence(TERMS, "of several that of the least rest");
        due(told("ship on 0; snake on 3; touch 3:0 with 3; load 1;").touchFor(0, 3, 30), 34);
        due(behind(1, "ship on 0; snake on 3; touch 3:0 with 3; load 1;").touchFor(0, 3, 30), 134);
        due(behind(5, "ship on 0; snake on 3; touch 3:0 with 3; load 1;").touchFor(0, 3, 30), 34);

        sentence(TERMS, "then of the lesser least number");
        // A mark on 3 goes by 0, 1, .. 7 with 3.
        due(told("ship on 0; mark on 3; touch 1:0 with 3; load 1;").touchFor(0, 3, 30), 3);
        due(told("ship on 0; mark on 3; name on 0 ink 0; touch 1:0 with 3; load 1;").touchFor(0, 3, 30), 3);
        due(told("ship on 0; name on 3; name on 0 ink 0; touch 1:0 with 3; load 1;").touchFor(0, 3, 30), 13);

        sentence(TERMS, "then of the lesser other one");
        // A snake on 3 goes by 3 with 4, 5, 6 or 7 alone; a name among these not to 4, where another one is.
        due(told("ship on 0; snake on 3; touch 1:0 with 3; load 1;").touchFor(0, 3, 30), 34);
        String no4 = "ship on 0; name on 3; name on 0 ink 0; name on 1 ink 0; name on 2 ink 0; name on 4 ink 0;";
        due(told(no4 + " touch 1:0 with 3; load 1;").touchFor(0, 3, 30), 35);
    }

    private static void apartForCall() {
        sentence(26, "APART FOR a MARK and one, n (0 to 30).");
        String text = "name on 0;" + STAIRS;
        due(told(text).apartFor(0, 6, 30), 0);
        due(behind(1, text).apartFor(0, 6, 29), 0);
        due(behind(1, text).apartFor(0, 6, 30), 1);
        due(told("mark on 0; touch 0:0 with 1;").apartFor(0, 1, 0), 0);
        due(told("mark on 0; touch 0:0 with 1;").apartFor(0, 1, 1), 1);

        sentence(26, "BAD; NONE: by no set.");
        due(told("mark on 0;").apartFor(0, 0, 0), NONE);
        due(told("mark on 0;").apartFor(0, 0, 30), NONE);
        dueBadWishes(told("mark on 0;"), 1);

        sentence(TERMS, "the set of fewest rests (0 to 5) such that, if nobody touches in HOURS of these, it does not COME to that one");
        due(told("mark on 0;").apartFor(0, 1, 30), 0);
        for (int rest = 0; rest < 6; rest++) {
            TravelMarks x = told("mark on 0;");
            x.touch(rest, 0, 1);
            due(x.apartFor(0, 1, 30), 1 << rest);
        }
        TravelMarks x = told("snake on 0 ink 9;");
        for (int rest = 0; rest < 6; rest++) {
            x.touch(rest, 0, 1);
            due(x.apartFor(0, 1, 30), (2 << rest) - 1);
        }
        // One rest of a greater number is fewer than two.
        due(told("snake on 0; touch 0:0 with 1; touch 1:0 with 1; touch 5:1 with 2;").apartFor(0, 2, 30), 32);

        sentence(TERMS, "of several the least. CIRCLE of one");
        due(told("mark on 0; touch 0:0 with 1; touch 1:1 with 2;").apartFor(0, 2, 30), 1);
        due(told("mark on 0; touch 4:0 with 1; touch 5:1 with 2;").apartFor(0, 2, 30), 16);
        x = told("snake on 0; touch 1:0 with 1; touch 2:0 with 1; touch 4:1 with 2; touch 5:1 with 2;");
        due(x.apartFor(0, 2, 30), 6);
    }

    // ---- FITS

    private static void dueFits(TravelMarks x, int mark, int many, int least, int... items) {
        for (int sort = 0; sort < 4; sort++) {
            sheetOf(x, sort, sort, items);
            due(x.fits(sort, mark, 0), many);
            due(x.fits(sort, mark, 1), least);
        }
    }

    private static void fitsCall() {
        sentence(27, "FITS: what = 0 how many of PEOPLE, 1 the least.");
        TravelMarks x = told("mark on 0; touch 0:0 with 7;");
        dueFits(x, 0, 8, 0);
        dueFits(x, 0, 1, 7, 0);
        dueFits(x, 0, 1, 0, 7);
        dueFits(x, 0, 1, 6, 6);

        sentence(27, "BAD: no such SHEET, one, what; -11; NONE (what 1): none.");
        dueFits(x, 0, 0, NONE, 8);
        dueAll(BAD, x.fits(-1, 0, 0), x.fits(4, 0, 0), x.fits(LEAST, 0, 1), x.fits(MOST, 0, 1));
        dueAll(BAD, x.fits(0, -1, 0), x.fits(0, 1, 0), x.fits(0, 8, 1), x.fits(0, LEAST, 1), x.fits(0, MOST, 1));
        dueAll(BAD, x.fits(0, 0, -1), x.fits(0, 0, 2), x.fits(0, 0, LEAST), x.fits(0, 0, MOST));
        x.sheet(0, -1, 0);
        dueAll(NOTHING, x.fits(0, 0, 0), x.fits(0, 0, 1));
        dueAll(BAD, x.fits(0, 1, 0), x.fits(0, 0, 2), x.fits(0, -1, 1), x.fits(0, 0, -1));
    }

    private static void fitsByNumbers() {
        sentence(TERMS, "behind 1, 2, .. HOURS, ON those that the numbers of the SHEET tell, one by one");
        TravelMarks x = told("name on 5; touch 0:0 with 1; touch 1:1 with 2;");
        dueFits(x, 0, 1, 0, 1, 2, 2);
        dueFits(x, 0, 1, 1, 0, 0);
        dueFits(x, 0, 1, 2, 2, 1);
        dueFits(x, 0, 0, NONE, 2, 2);
        int[] forty = new int[40];
        java.util.Arrays.fill(forty, 6);
        dueFits(x, 0, 1, 6, forty);
        forty[39] = 7;
        dueFits(x, 0, 0, NONE, forty);
        forty[0] = 7;
        forty[39] = 6;
        dueFits(x, 0, 0, NONE, forty);

        sentence(TERMS, "(-1: any)");
        dueFits(x, 0, 8, 0, -1);
        dueFits(x, 0, 0, NONE, -2);
        dueFits(x, 0, 0, NONE, 8);
        dueFits(x, 0, 1, 0, -1, 2);
        java.util.Arrays.fill(forty, -1);
        dueFits(x, 0, 8, 0, forty);
        // Numbers are told by what a sort holds: of bytes 255 is -1, and of the others it is not.
        int[] many = {8, 0, 0, 0};
        for (int sort = 0; sort < 4; sort++) {
            sheetOf(x, sort, sort, 255);
            due(x.fits(sort, 0, 0), many[sort]);
        }

        sentence(TERMS, "FITS of one by a SHEET: those ON whom it might be now");
        // All else is as now: the other name is ON 1, and it is that one alone which moves.
        x = told("name on 4; name on 1; touch 0:0 with 1;");
        dueFits(x, 0, 2, 0, 0);
        dueFits(x, 0, 0, NONE, 1);
        due(x.of(0, 2), 4);
    }
}
