import java.util.List;
import java.util.TreeSet;
import java.util.function.Supplier;

/** What a call changes: nothing, if it is refused or if it asks of what is TRIED; else what it tells, and no more. */
final class ChangeBounds extends Checks {
    private interface Call {
        long on(TravelMarks x);
    }

    static void run() {
        numbersOfRefusals();
        refusedInPort();
        refusedInTime();
        refusedInTried();
        refusedInThings();
        faultUsesUpTheTape();
        triedChangesNothing();
        askedChangesNothing();
        changesOfPort();
        changesOfThings();
    }

    // ---- objects that a call would change, were it not refused

    /** Full of all that it can hold. THE TAPE holds a text of 200 bytes, SHEET 2 is missing, SHELF 2 holds nothing. */
    private static TravelMarks full() {
        TravelMarks x = told("dragon on 6 ink 30; mark on 0; ship on 1; snake on 2; anchor on 3; name on 4; mark on 5; ship on 7;"
            + "touch 0:0 with 1; touch 1:1 with 2; touch 2:2 with 3; touch 3:3 with 4;");
        x.touch(5, 5, 6);
        x.keep();
        for (int law = 0; law < 4; law++) {
            x.set(law, 4 + law);
        }
        x.hours(7);
        x.mind(5, ANCHOR, 60);
        x.seed(-7);
        x.prove(1, 10);
        x.alterRow(3, 1, 77);
        sheetOf(x, 0, 0, 5, -6, 7, 100, 9);
        sheetOf(x, 1, 1, 300, -300, 3);
        sheetOf(x, 3, 3, 6, -1, LEAST);
        x.shelf(0, 0, 0);
        x.shelf(1, 1, 0);
        x.shelf(3, 0, 7);
        x.act(0, 3, 5);
        tell(x, "snake on 4 ink 44; touch 2:3 with 4; tide 8;" + " ".repeat(156));
        return x;
    }

    /** Little is there, nothing is kept, and THE TAPE has room for five bytes. */
    private static TravelMarks little() {
        TravelMarks x = told("mark on 0; name on 3;");
        sheetOf(x, 0, 0, 6, 0);
        tell(x, "fade 3;" + " ".repeat(188));
        return x;
    }

    private static void dueChanges(Supplier<TravelMarks> made, Call call, long answer, String... belongs) {
        TravelMarks x = made.get();
        due(call.on(x), answer);
        TreeSet<String> unlike = new Snapshot(x).unlike(new Snapshot(made.get()));
        if (!unlike.equals(new TreeSet<>(List.of(belongs)))) {
            complain("the call of " + lineOfTest() + " changes " + unlike + ", due is " + List.of(belongs));
        }
    }

    /** These are refused so by the one object, and nothing changes. */
    private static void dueRefused(Supplier<TravelMarks> made, long answer, Call... calls) {
        for (Call call : calls) {
            dueChanges(made, call, answer);
        }
    }

    private static void dueRefusedByBoth(long answer, Call... calls) {
        dueRefused(ChangeBounds::full, answer, calls);
        dueRefused(ChangeBounds::little, answer, calls);
    }

    private static void sentenceOfRefusal() {
        sentence(TERMS, "such a call changes nothing (but that THE TAPE is used up by port()); of several the first named");
    }

    private static void numbersOfRefusals() {
        sentence(TERMS, "BAD (-1) there is no such thing, or a number is not as told; FULL (-2); NONE (-3)");
        due(TravelMarks.BAD, -1);
        due(TravelMarks.FULL, -2);
        due(TravelMarks.NONE, -3);
        TravelMarks x = full();
        due(x.of(8, 0), -1);
        due(x.mark(0, 0, 0), -2);
        due(x.touchOf(4, 0), -3);

        sentence(TERMS, "-11 nothing where something is asked");
        due(x.taken(2, 0), -11);
        sentence(TERMS, "-12 a place outside");
        due(x.item(0, 0, 5), -12);
        sentence(TERMS, "-13 a thing of another sort or kind");
        dueAll(-13, x.item(0, 1, 0), x.taken(0, 1));
        sentence(TERMS, "-14 a size below 0");
        due(x.sheet(0, 0, -1), -14);
        sentence(TERMS, "-15 parted by 0");
        x.move(0, 0);
        due(x.act(0, 2, 5), -15);
    }

    // ---- refused calls: where two refusals would stand, the one that is named first

    private static void refusedInPort() {
        sentenceOfRefusal();
        dueRefusedByBoth(BAD, x -> x.feed(-1, 0), x -> x.feed(-1, 9), x -> x.feed(-1, -1), x -> x.feed(-1, MOST));
        dueRefused(ChangeBounds::full, FULL, x -> x.feed(-1, 1), x -> x.feed(-1, 8));
        dueRefused(ChangeBounds::little, FULL, x -> x.feed(-1, 6), x -> x.feed(-1, 8));
        dueRefusedByBoth(BAD, x -> x.set(0, 0), x -> x.set(0, 9), x -> x.set(1, 10), x -> x.set(2, -1), x -> x.set(3, 100));
        dueRefusedByBoth(BAD, x -> x.set(-1, 1), x -> x.set(4, 1), x -> x.lawOf(-1), x -> x.lawOf(4));
        dueRefusedByBoth(BAD, x -> x.mark(6, 1, 1), x -> x.mark(1, 100, 1), x -> x.mark(1, 1, 8), x -> x.mark(-1, -1, -1));
        dueRefused(ChangeBounds::full, FULL, x -> x.mark(0, 0, 0), x -> x.mark(5, 99, 7));
        dueRefusedByBoth(BAD, x -> x.of(8, 0), x -> x.of(-1, 0), x -> x.of(0, 5), x -> x.of(0, -1));
        dueRefusedByBoth(BAD, x -> x.mind(8, 1, 1), x -> x.mind(-1, 1, 1), x -> x.mind(0, 6, 1), x -> x.mind(0, 1, 100));
        dueRefusedByBoth(BAD, x -> x.mind(0, -1, 1), x -> x.mind(0, 1, -1));
        dueRefusedByBoth(BAD, x -> x.move(8, 1), x -> x.move(-1, 1), x -> x.move(0, 8), x -> x.move(0, -1));
        dueRefusedByBoth(BAD, x -> x.touch(6, 1, 2), x -> x.touch(-1, 1, 2), x -> x.touch(0, 8, 2), x -> x.touch(0, 1, 8));
        dueRefusedByBoth(BAD, x -> x.touch(0, 3, 3), x -> x.touch(0, -1, 2), x -> x.touch(0, 2, -1));
        dueRefusedByBoth(BAD, x -> x.part(6), x -> x.part(-1), x -> x.touchOf(6, 0), x -> x.touchOf(4, 2), x -> x.touchOf(4, -1));
        dueRefusedByBoth(NONE, x -> x.touchOf(4, 0), x -> x.touchOf(4, 1));
        dueRefusedByBoth(BAD, x -> x.who(8, 0), x -> x.who(-1, 1), x -> x.who(0, 2), x -> x.who(0, -1));
    }

    private static void refusedInTime() {
        sentenceOfRefusal();
        dueRefusedByBoth(BAD, x -> x.hours(0), x -> x.hours(61), x -> x.hours(-1), x -> x.hours(LEAST));
        dueRefusedByBoth(BAD, x -> x.stir(0), x -> x.stir(31), x -> x.stir(-1), x -> x.stir(MOST));
        dueRefusedByBoth(BAD, x -> x.state(6), x -> x.state(-1), x -> x.many(7), x -> x.many(-1));
        dueRefusedByBoth(BAD, x -> x.odds(9, 0, 0), x -> x.odds(3, 4, 0), x -> x.odds(3, -1, 0), x -> x.odds(3, 1, 2));
        dueRefusedByBoth(BAD, x -> x.hope(100, 0), x -> x.hope(-1, 0), x -> x.hope(3, 2), x -> x.hope(3, -1));
        dueRefused(ChangeBounds::little, NONE, x -> x.again());
    }

    private static void refusedInTried() {
        sentenceOfRefusal();
        dueRefusedByBoth(BAD, x -> x.where(8, 1), x -> x.where(-1, 1), x -> x.where(0, 61), x -> x.where(0, -1));
        dueRefusedByBoth(BAD, x -> x.comes(8, 1), x -> x.comes(-1, 1), x -> x.comes(0, 8), x -> x.comes(0, -1));
        dueRefusedByBoth(BAD, x -> x.bare(8), x -> x.bare(-1));
        dueRefusedByBoth(BAD, x -> x.kindFor(8, 1, 1), x -> x.kindFor(0, 8, 1), x -> x.kindFor(0, 1, 31), x -> x.kindFor(0, 1, -1));
        dueRefusedByBoth(BAD, x -> x.inkFor(8, 1, 1), x -> x.inkFor(0, 8, 1), x -> x.inkFor(0, 1, 31), x -> x.inkFor(0, 1, -1));
        dueRefusedByBoth(BAD, x -> x.touchFor(8, 1, 1), x -> x.touchFor(0, 8, 1), x -> x.touchFor(0, 1, 31), x -> x.touchFor(0, 1, -1));
        dueRefusedByBoth(BAD, x -> x.apartFor(8, 1, 1), x -> x.apartFor(0, 8, 1), x -> x.apartFor(0, 1, 31), x -> x.apartFor(0, 1, -1));
        dueRefused(ChangeBounds::little, NONE, x -> x.comes(0, 7), x -> x.bare(0), x -> x.dry());
        dueRefused(ChangeBounds::little, NONE, x -> x.inkFor(0, 7, 30), x -> x.touchFor(0, 0, 30), x -> x.apartFor(0, 0, 30));
        // No such SHEET, one or what; then a missing one; then none.
        dueRefusedByBoth(BAD, x -> x.fits(4, 0, 0), x -> x.fits(-1, 0, 1), x -> x.fits(2, 8, 0), x -> x.fits(2, 0, 2));
        dueRefusedByBoth(NOTHING, x -> x.fits(2, 0, 0), x -> x.fits(2, 1, 1));
        dueRefused(ChangeBounds::little, BAD, x -> x.fits(0, 2, 1), x -> x.fits(0, 0, 2));
        dueRefused(ChangeBounds::little, NONE, x -> x.fits(0, 0, 1));
    }

    private static void refusedInThings() {
        sentenceOfRefusal();
        dueRefusedByBoth(BAD, x -> x.prove(8, 1), x -> x.prove(-1, 1), x -> x.prove(0, 0), x -> x.prove(0, 11));
        dueRefusedByBoth(BAD, x -> x.judge(8), x -> x.judge(-1));
        dueRefusedByBoth(NO_ROW, x -> x.row(10, 0), x -> x.row(-1, 0), x -> x.row(0, 3), x -> x.row(0, -1));
        dueRefusedByBoth(NO_ROW, x -> x.alterRow(10, 0, 5), x -> x.alterRow(-1, 2, 5), x -> x.alterRow(0, 3, 5), x -> x.alterRow(1, -1, 5));
        dueRefused(ChangeBounds::little, NO_ROW, x -> x.row(0, 0), x -> x.alterRow(0, 0, 5));
        dueRefusedByBoth(BAD, x -> x.minds(4, 0, 0, 1), x -> x.minds(0, 0, 8, 1), x -> x.minds(0, 0, 0, 9), x -> x.minds(0, 0, 1, 8));
        dueRefusedByBoth(BAD, x -> x.minds(2, -1, 8, 1), x -> x.minds(2, -1, 0, -1), x -> x.minds(2, 99, 1, 8));
        dueRefusedByBoth(NOTHING, x -> x.minds(2, 0, 0, 1), x -> x.minds(2, -1, 0, 1), x -> x.minds(2, 0, 0, 0));
        dueRefused(ChangeBounds::full, BAD, x -> x.minds(1, -1, 8, 1), x -> x.minds(3, 4, 1, 8));
        dueRefused(ChangeBounds::full, OTHER_SORT, x -> x.minds(1, 0, 0, 1), x -> x.minds(3, -1, 0, 1), x -> x.minds(1, 4, 0, 0));
        dueRefused(ChangeBounds::full, OUTSIDE, x -> x.minds(0, -1, 0, 1), x -> x.minds(0, 6, 0, 0), x -> x.minds(0, 1, 0, 5));
        dueRefusedByBoth(BAD, x -> x.sheet(4, 0, 1), x -> x.sheet(-1, -1, 1), x -> x.sheet(0, 4, 1), x -> x.sheet(0, -2, 1));
        dueRefusedByBoth(BAD, x -> x.sheet(0, 1, 41), x -> x.sheet(4, 1, -1), x -> x.sheet(0, 4, -1), x -> x.sheet(0, -2, -1));
        dueRefusedByBoth(BELOW_0, x -> x.sheet(0, 1, -1), x -> x.sheet(2, 3, -1), x -> x.sheet(0, 0, LEAST));
        dueRefusedByBoth(BAD, x -> x.put(4, 0, 5), x -> x.put(-1, 0, 5), x -> x.put(4, -1, 5));
        dueRefusedByBoth(NOTHING, x -> x.put(2, 0, 5), x -> x.put(2, -1, 5), x -> x.put(2, 40, 5));
        dueRefusedByBoth(OUTSIDE, x -> x.put(0, -1, 5), x -> x.put(0, 5, 5), x -> x.put(0, 40, 5));
        dueRefusedByBoth(BAD, x -> x.item(4, 0, 0), x -> x.item(0, 4, 0), x -> x.item(2, 4, -1), x -> x.item(0, -1, -1));
        dueRefusedByBoth(NOTHING, x -> x.item(2, 0, 0), x -> x.item(2, 3, -1));
        dueRefusedByBoth(OTHER_SORT, x -> x.item(0, 1, 0), x -> x.item(0, 3, -1), x -> x.item(0, 2, 40));
        dueRefusedByBoth(OUTSIDE, x -> x.item(0, 0, -1), x -> x.item(0, 0, 5));
        dueRefusedByBoth(BAD, x -> x.shelf(4, 2, 0), x -> x.shelf(-1, 0, 0), x -> x.shelf(0, 3, 0), x -> x.shelf(0, -1, 0));
        dueRefusedByBoth(BAD, x -> x.shelf(0, 0, 8), x -> x.shelf(0, 0, -1), x -> x.shelf(0, 1, 4), x -> x.shelf(1, 1, -1));
        dueRefusedByBoth(BAD, x -> x.taken(4, 0), x -> x.taken(2, 6), x -> x.taken(0, 9), x -> x.taken(1, 14), x -> x.taken(2, -1));
        dueRefusedByBoth(NOTHING, x -> x.taken(2, 0), x -> x.taken(2, 13));
        dueRefused(ChangeBounds::full, OTHER_SORT, x -> x.taken(0, 5), x -> x.taken(0, 10), x -> x.taken(1, 0), x -> x.taken(1, 11));
        dueRefusedByBoth(NONE, x -> x.trace(11), x -> x.trace(-1), x -> x.trace(30));
    }

    private static void faultUsesUpTheTape() {
        sentence(TERMS, "changes nothing (but that THE TAPE is used up by port())");
        dueChanges(() -> {
            TravelMarks x = little();
            x.feed(';', 1);
            x.prove(0, 3);
            x.keep();
            return x;
        }, x -> x.port(), -295, Snapshot.TAPE);
    }

    // ---- calls that are not refused

    private static void triedChangesNothing() {
        sentence(TERMS, "What is asked here is TRIED; nothing changes.");
        Call[] calls = {
            x -> x.where(1, 60), x -> x.comes(1, 5), x -> x.bare(5), x -> x.dry(), x -> x.kindFor(1, 5, 30), x -> x.inkFor(1, 5, 30),
            x -> x.touchFor(1, 5, 30), x -> x.apartFor(1, 5, 30), x -> x.fits(0, 1, 0), x -> x.fits(1, 1, 1), x -> x.odds(8, 4, 0),
            x -> x.hope(99, 1), x -> x.stir(30), x -> x.judge(1), x -> x.judge(5),
        };
        for (Call call : calls) {
            dueChanges(ChangeBounds::full, call, call.on(full()));
        }
    }

    private static void askedChangesNothing() {
        sentence(TERMS, "Answers below 0, where not told otherwise, are refusals");
        Call[] calls = {
            x -> x.lawOf(0), x -> x.of(0, 3), x -> x.of(0, 4), x -> x.touchOf(0, 0), x -> x.who(0, 0), x -> x.who(0, 1),
            x -> x.state(0), x -> x.state(5), x -> x.row(9, 2), x -> x.item(0, 0, 4), x -> x.taken(0, 0), x -> x.taken(1, 10),
            x -> x.trace(0), x -> x.many(0), x -> x.many(6),
        };
        for (Call call : calls) {
            dueChanges(ChangeBounds::full, call, call.on(full()));
        }
        // An item and a ROW may be below 0 and are no refusals, nor is z.
        due(full().item(0, 0, 1), -6);
        due(full().alterRow(3, 1, -3), 77);
        due(full().seed(5), -7);
    }

    private static void changesOfPort() {
        sentence(2, "n bytes (1 to 8) come to THE TAPE");
        dueChanges(ChangeBounds::little, x -> x.feed(';', 1), 196, Snapshot.TAPE);
        sentence(3, "THE TAPE becomes all");
        dueChanges(ChangeBounds::full, x -> x.port(), 1, Snapshot.PORT, Snapshot.ROWS, Snapshot.TAPE, Snapshot.SHELVES);
        dueChanges(ChangeBounds::little, x -> x.port(), 0, Snapshot.PORT, Snapshot.TAPE);
        sentence(4, "A LAW becomes v");
        dueChanges(ChangeBounds::full, x -> x.set(1, 9), 5, Snapshot.PORT);
        dueChanges(ChangeBounds::full, x -> x.set(1, 5), 5);
        sentence(6, "One more ON one of PEOPLE");
        dueChanges(ChangeBounds::little, x -> x.mark(1, 1, 1), 2, Snapshot.PORT);
        sentence(8, "One becomes one of another KIND");
        dueChanges(ChangeBounds::full, x -> x.mind(1, MARK, 1), MARK, Snapshot.PORT);
        sentence(9, "It is ON another one from now on");
        dueChanges(ChangeBounds::full, x -> x.move(6, 1), 6, Snapshot.PORT);
        sentence(10, "these two touch");
        dueChanges(ChangeBounds::full, x -> x.touch(4, 1, 2), 1, Snapshot.PORT);
        sentence(11, "Nobody touches in HOURS of a rest");
        dueChanges(ChangeBounds::full, x -> x.part(0), 1, Snapshot.PORT);
        dueChanges(ChangeBounds::full, x -> x.part(4), 0);
        sentence(14, "n HOURS (1 to 60)");
        dueChanges(ChangeBounds::little, x -> x.hours(1), 2, Snapshot.PORT);
        sentence(15, "z becomes v");
        dueChanges(ChangeBounds::full, x -> x.seed(5), -7, Snapshot.Z);
        sentence(16, "AN HOUR BY DRAWS");
        dueChanges(ChangeBounds::little, x -> x.hour(), 2, Snapshot.PORT, Snapshot.Z);
        sentence(43, "is kept: 1");
        dueChanges(ChangeBounds::full, x -> x.keep(), 1, Snapshot.KEPT);
        sentence(44, "It becomes what was kept latest (which stays)");
        dueChanges(ChangeBounds::full, x -> x.again(), 8, Snapshot.PORT, Snapshot.Z);
    }

    private static void changesOfThings() {
        sentence(30, "ROWS of one by n HOURS");
        dueChanges(ChangeBounds::full, x -> x.prove(2, 5), 5, Snapshot.ROWS);
        sentence(32, "It becomes v");
        dueChanges(ChangeBounds::full, x -> x.alterRow(9, 2, -9), 0, Snapshot.ROWS);
        sentence(34, "become INK of MARKS from one on");
        dueChanges(ChangeBounds::full, x -> x.minds(0, 0, 3, 5), 5, Snapshot.PORT);
        dueChanges(ChangeBounds::full, x -> x.minds(0, 5, 3, 0), 0);
        sentence(35, "A SHEET becomes a row");
        dueChanges(ChangeBounds::full, x -> x.sheet(0, 0, 5), 1, Snapshot.SHEETS);
        dueChanges(ChangeBounds::full, x -> x.sheet(0, -1, 5), 1, Snapshot.SHEETS);
        sentence(36, "Item i becomes v");
        dueChanges(ChangeBounds::full, x -> x.put(3, 2, 5), 1, Snapshot.SHEETS);
        sentence(38, "A SHELF holds one");
        dueChanges(ChangeBounds::full, x -> x.shelf(1, 0, 0), 1, Snapshot.SHELVES);
        dueChanges(ChangeBounds::full, x -> x.shelf(2, 1, 3), 1, Snapshot.SHELVES);
        dueChanges(ChangeBounds::full, x -> x.shelf(2, 1, 2), 1);
        sentence(40, "An ACT");
        dueChanges(ChangeBounds::full, x -> x.act(3, 1, 0), 28, Snapshot.TRACE);
        dueChanges(ChangeBounds::full, x -> x.act(2, 1, 0), 0, Snapshot.TRACE);
        dueChanges(ChangeBounds::little, x -> x.act(0, 1, 0), 0);
    }
}
