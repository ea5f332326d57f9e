/** The sentences that name a boundary, of THE TAPE and its text: Terms 2, promises 2 and 3. */
final class TextBounds extends Checks {

    static void run() {
        tape();
        feedCall();
        kindsAndInk();
        touches();
        lawsTold();
        allByItAlone();
        namesAndNumbers();
        blanks();
        faultOfWhatCantStandThere();
        faultOfNumbers();
        faultOfNinth();
        faultAtTheEnd();
        portCall();
    }

    private static int fault(int place) {
        return -100 - place;
    }

    /** The text is refused at a place, and nothing comes of it. */
    private static void dueFault(String text, int place) {
        TravelMarks x = new TravelMarks();
        int got = ported(x, text);
        due("port() of \"" + text + "\"", got, fault(place));
        dueAll(0, x.many(0), x.many(3), x.many(5));
    }

    private static void duePorted(String text, int marks) {
        due("port() of \"" + text + "\"", ported(text), marks);
    }

    // ---- THE TAPE

    private static void tape() {
        sentence(TERMS, "THE TAPE takes bytes, 200 at most");
        TravelMarks x = new TravelMarks();
        for (int i = 1; i <= 25; i++) {
            due(x.feed(0x2020202020202020L, 8), 8L * i);
        }
        for (int n = 1; n <= 8; n++) {
            due(x.feed(0x2020202020202020L, n), FULL);
        }
        due(x.many(5), 200);

        sentence(TERMS, "port() uses it up");
        due(x.port(), 0);
        due(x.many(5), 0);
        due(x.feed(';', 1), 1);
        due(x.port(), fault(0));
        due(x.many(5), 0);
        due(x.port(), 0);
        // What was there before is no part of the next text.
        due(ported(x, "z".repeat(200)), fault(0));
        due(ported(x, "mark"), fault(4));
        due(ported(x, "1".repeat(200)), fault(0));
        due(ported(x, "load 3"), fault(6));
    }

    private static void feedCall() {
        sentence(2, "n bytes (1 to 8) come to THE TAPE");
        TravelMarks x = new TravelMarks();
        dueAll(BAD, x.feed(0, 0), x.feed(0, 9));
        due(x.many(5), 0);
        due(x.feed(0, 1), 1);
        due(x.feed(0, 8), 9);

        sentence(2, "the lowest of eight first: how many it has");
        x = new TravelMarks();
        // "load 4;" and " fade 7;", the first with a sign above it that does not come.
        due(x.feed(0xFF3B3420_64616F6CL, 7), 7);
        due(x.feed(0x3B372065_64616620L, 8), 15);
        due(x.port(), 0);
        due(x.lawOf(0), 4);
        due(x.lawOf(1), 7);
        // The highest of eight is the last one, and a byte above 127 is none of a text.
        x.feed(0x8020202020202020L, 8);
        due(x.port(), fault(7));

        sentence(2, "BAD; FULL: more than 200.");
        for (int i = 0; i < 24; i++) {
            x.feed(0x2020202020202020L, 8);
        }
        due(x.feed(' ', 1), 193);
        due(x.feed(0x7A7A7A7A7A7A7A7AL, 8), FULL);
        due(x.many(5), 193);
        due(x.feed(0x2020202020202020L, 7), 200);
        due(x.feed(' ', 1), FULL);
        dueAll(BAD, x.feed(' ', 0), x.feed(' ', 9), x.feed(' ', -1), x.feed(' ', LEAST), x.feed(' ', MOST));
        due(x.port(), 0);
    }

    // ---- TEXT

    private static void kindsAndInk() {
        sentence(TERMS, "(mark | ship | snake | anchor | dragon | name): one more ON one; INK (9 without)");
        int[] kinds = {MARK, SHIP, SNAKE, ANCHOR, DRAGON, NAME};
        for (int kind : kinds) {
            TravelMarks x = told(KINDS[kind] + " on 0;" + KINDS[kind] + " on 7 ink 0;" + KINDS[kind] + " on 3 ink 99;");
            due(x.many(0), 3);
            dueMark(x, 0, kind, 9, 0);
            dueMark(x, 1, kind, 0, 7);
            dueMark(x, 2, kind, 99, 3);
        }
        TravelMarks x = told("name on 5;".repeat(8));
        due(x.many(0), 8);
        dueMark(x, 7, NAME, 9, 5);
    }

    private static void touches() {
        sentence(TERMS, "touch: in HOURS of that rest these two touch (unlike ones).");
        TravelMarks x = told("touch 0:0 with 7; touch 5:7 with 0; touch 5:6 with 1;");
        due(x.touchOf(0, 0), 0);
        due(x.touchOf(0, 1), 7);
        due(x.touchOf(5, 0), 6);
        due(x.touchOf(5, 1), 1);
        due(x.many(3), 2);
        for (int one = 0; one < 8; one++) {
            dueFault("touch 0:" + one + " with " + one + ";", 15);
        }
    }

    private static void lawsTold() {
        sentence(TERMS, "The others: the LAW.");
        int[] least = {1, 0, 0, 0};
        int[] most = {8, 9, 9, 99};
        for (int law = 0; law < 4; law++) {
            due(told(LAWS[law] + " " + least[law] + ";").lawOf(law), least[law]);
            due(told(LAWS[law] + " " + most[law] + ";").lawOf(law), most[law]);
            due(told(LAWS[law] + " " + most[law] + ";" + LAWS[law] + " " + least[law] + ";").lawOf(law), least[law]);
            int place = LAWS[law].length() + 1;
            dueFault(LAWS[law] + " " + (most[law] + 1) + ";", place);
        }
        dueFault("load 0;", 5);
    }

    private static void allByItAlone() {
        sentence(TERMS, "It is all by it alone (what it doesn't tell is as at first); z stays.");
        TravelMarks x = told("mark on 1; touch 0:1 with 2; load 8; fade 9; tide 9; chance 99;");
        x.hours(7);
        x.seed(-5);
        // What was tried before is no part of it either.
        x.where(0, 60);
        x.stir(3);
        due(x.port(), 0);
        due(x.many(0), 0);
        due(x.many(3), 0);
        due(x.lawOf(0), 3);
        due(x.lawOf(1), 1);
        due(x.lawOf(2), 5);
        due(x.lawOf(3), 20);
        due(x.state(0), 0);
        due(x.seed(0), -5);
        // A text with a FAULT leaves nothing of what it told before that to the next one.
        due(ported(x, "load 1; touch 3:1 with 2; mark on 1; ;"), fault(37));
        due(ported(x, "name on 2;"), 1);
        dueMark(x, 0, NAME, 9, 2);
        due(x.many(3), 0);
        due(x.lawOf(0), 3);
    }

    private static void namesAndNumbers() {
        sentence(TERMS, "NAMES are rows of letters a to z");
        // The letters' own ends, and the signs next to them: these part a NAME, those are of it.
        dueFault("mark`", 4);
        dueFault("mark{", 4);
        dueFault("marka on 1;", 0);
        dueFault("markz on 1;", 0);
        dueFault("zmark on 1;", 0);
        dueFault("Mark on 1;", 0);
        dueFault("maRk on 1;", 0);

        sentence(TERMS, "NUMBERS rows of digits (1 to 3)");
        dueFault("mark on 1/", 9);
        dueFault("mark on 1:", 9);
        dueFault("mark on 10;", 8);
        dueFault("mark on 19;", 8);
        dueFault("mark on /;", 8);
        duePorted("mark on 7;", 1);
        duePorted("mark on 07;", 1);
        duePorted("mark on 007;", 1);
        dueFault("mark on 0007;", 8);
        due(told("chance 099;").lawOf(3), 99);
        dueFault("chance 0099;", 7);
        dueFault("mark on 4294967296;", 8);
        dueFault("mark on " + "0".repeat(192), 8);

        sentence(TERMS, "both as long as they go");
        duePorted("mark on1ink9;", 1);
        duePorted("touch0:1with2;load8;", 0);
        dueFault("markon 1;", 0);
        dueFault("mark on 1 ink9on;", 14);
        dueFault("touch 0:12with 3;", 8);
    }

    private static void blanks() {
        sentence(TERMS, "blanks (32) part them, and stand elsewhere as one likes");
        duePorted(" ".repeat(200), 0);
        duePorted("  mark   on  1   ink  0  ;  ", 1);
        duePorted(" touch  5  :  1  with  2  ; ", 0);
        duePorted(" ".repeat(190) + "mark on 1;", 1);
        duePorted("mark on 1;" + " ".repeat(190), 1);
        dueFault("ma rk on 1;", 0);
        dueFault("mark o n 1;", 5);
        dueFault("mark on 1 2;", 10);
        // The signs next to 32, and other ones that look like blanks.
        dueFault("mark\u001fon 1;", 4);
        dueFault("mark!on 1;", 4);
        dueFault("mark\ton 1;", 4);
        dueFault("mark on 1;\n", 10);
        dueFault("mark on 1;\u0000", 10);
        dueFault("mark on 1;\u00a0", 10);
    }

    private static void faultOfWhatCantStandThere() {
        sentence(TERMS, "the place (from 0) of the first byte of the first NAME, NUMBER or other byte that can't stand there");
        dueFault(";", 0);
        dueFault("7", 0);
        dueFault("on", 0);
        dueFault("ink 3;", 0);
        dueFault("with", 0);
        dueFault("   marks on 1;", 3);
        dueFault("mark 1;", 5);
        dueFault("mark in 1;", 5);
        dueFault("mark on x;", 8);
        dueFault("mark on ;", 8);
        dueFault("mark on 1 on;", 10);
        dueFault("mark on 1 ink ;", 14);
        dueFault("mark on 1 ink x;", 14);
        dueFault("mark on 1 ink 3 ink 4;", 16);
        dueFault("mark on 1;;", 10);
        dueFault("touch x:1 with 2;", 6);
        dueFault("touch 0 1 with 2;", 8);
        dueFault("touch 0;1 with 2;", 7);
        dueFault("touch 0:x with 2;", 8);
        dueFault("touch 0:1 on 2;", 10);
        dueFault("touch 0:1 with x;", 15);
        dueFault("touch 0:1 with 2:", 16);
        dueFault("load x;", 5);
        dueFault("load 3 4;", 7);
        dueFault("load 3:", 6);
        dueFault("load\u00ff3;", 4);
        dueFault(" ".repeat(199) + ";", 199);
        // The first of several.
        dueFault("mark on 8; load 0;", 8);
        dueFault("load 1; load 0; mark on 8;", 13);
    }

    private static void faultOfNumbers() {
        sentence(TERMS, "or is not as told (a NUMBER out of range");
        duePorted("mark on 0 ink 0;mark on 7 ink 99;", 2);
        dueFault("mark on 8;", 8);
        dueFault("mark on 1 ink 100;", 14);
        duePorted("touch 0:0 with 7;touch 5:7 with 0;", 0);
        dueFault("touch 6:0 with 1;", 6);
        dueFault("touch 0:8 with 1;", 8);
        dueFault("touch 0:1 with 8;", 15);
        dueFault("load 0;", 5);
        dueFault("load 9;", 5);
        dueFault("fade 10;", 5);
        dueFault("tide 10;", 5);
        dueFault("chance 100;", 7);

        sentence(TERMS, "of more digits");
        dueFault("mark on 0001;", 8);
        dueFault("mark on 1 ink 0009;", 14);
        dueFault("touch 0000:1 with 2;", 6);
        dueFault("touch 0:0001 with 2;", 8);
        dueFault("touch 0:1 with 0002;", 15);
        dueFault("load 0001;", 5);
        duePorted("touch 000:001 with 002;load 001;", 0);

        sentence(TERMS, "the same as the first one");
        dueFault("touch 0:3 with 3;", 15);
        dueFault("touch 0:003 with 3;", 17);
        dueFault("touch 0:3 with 03;", 15);
        duePorted("touch 3:3 with 4;", 0);
    }

    private static void faultOfNinth() {
        sentence(TERMS, "the NAME of a ninth one");
        String eight = "mark on 0;".repeat(8);
        duePorted(eight, 8);
        for (String kind : KINDS) {
            dueFault(eight + kind + " on 1;", 80);
        }
        // It is not as told at its NAME, whatever comes behind it; a LAW and a touch are none of the MARKS.
        dueFault(eight + "  mark on 9;", 82);
        dueFault(eight + "mark", 80);
        duePorted(eight + "load 1;touch 0:1 with 2;", 8);
        dueFault(eight + "load 9;mark on 1;", 85);
    }

    private static void faultAtTheEnd() {
        sentence(TERMS, "or the end (how many bytes there are), if more must come");
        duePorted("", 0);
        dueFault("mark", 4);
        dueFault("mark  ", 6);
        dueFault("mark on", 7);
        dueFault("mark on 1", 9);
        dueFault("mark on 1 ", 10);
        dueFault("mark on 1 ink", 13);
        dueFault("mark on 1 ink 5", 15);
        dueFault("touch", 5);
        dueFault("touch 0", 7);
        dueFault("touch 0:", 8);
        dueFault("touch 0:1", 9);
        dueFault("touch 0:1 with", 14);
        dueFault("touch 0:1 with 2", 16);
        for (String law : LAWS) {
            dueFault(law, law.length());
            dueFault(law + " 3", law.length() + 2);
        }
        dueFault(" ".repeat(196) + "mark", 200);
        dueFault(" ".repeat(194) + "load 3", 200);
    }

    // ---- port()

    private static void portCall() {
        sentence(3, "THE TAPE becomes all: how many MARKS");
        for (int marks = 0; marks <= 8; marks++) {
            duePorted("mark on 0;".repeat(marks), marks);
        }

        sentence(3, "-100 less its FAULT");
        due(ported(";"), -100);
        due(ported(" ;"), -101);
        due(ported(" ".repeat(199) + ";"), -299);
        due(ported(" ".repeat(196) + "mark"), -300);

        sentence(3, "There are no ROWS then.");
        TravelMarks x = told("mark on 1;");
        x.prove(0, 10);
        due(x.many(4), 10);
        due(ported(x, "mark on 9;"), fault(8));
        due(x.many(4), 10);
        due(ported(x, "mark on 1;"), 1);
        due(x.many(4), 0);
        due(x.row(0, 0), NO_ROW);
    }
}
