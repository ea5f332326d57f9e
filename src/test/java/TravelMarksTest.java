/** Promise by promise: ordinary calls, the edges that the document names, and each refusal in its order. */
public final class TravelMarksTest extends Checks {
    // ---- 1 to 3

    private static void newObject() {
        TravelMarks x = new TravelMarks();
        for (int what = 0; what <= 6; what++) {
            due("many(" + what + ")", x.many(what), 0);
        }
        due("lawOf(0)", x.lawOf(0), 3);
        due("lawOf(1)", x.lawOf(1), 1);
        due("lawOf(2)", x.lawOf(2), 5);
        due("lawOf(3)", x.lawOf(3), 20);
        due("state(0)", x.state(0), 0);
        for (int rest = 0; rest < 6; rest++) {
            due("touchOf(" + rest + ", 0)", x.touchOf(rest, 0), NONE);
        }
        due("again()", x.again(), NONE);
        due("seed(1)", x.seed(1), 1);
        due("row(0, 0)", x.row(0, 0), -9);
        for (int i = 0; i < 4; i++) {
            due("item(i, 0, 0)", x.item(i, 0, 0), -11);
            due("taken(i, 0)", x.taken(i, 0), -11);
        }
        due("trace(0)", x.trace(0), NONE);
        due("of(0, 0)", x.of(0, 0), BAD);
        due("BAD", BAD, -1);
        due("FULL", FULL, -2);
        due("NONE", NONE, -3);
    }

    private static void feed() {
        TravelMarks x = new TravelMarks();
        due("feed n 0", x.feed(0, 0), BAD);
        due("feed n 9", x.feed(0, 9), BAD);
        due("feed n -1", x.feed(0, -1), BAD);
        due("feed n least", x.feed(0, LEAST), BAD);
        due("feed n most", x.feed(0, MOST), BAD);
        due("many(5)", x.many(5), 0);
        // "load" then " 4;" with signs above them that don't come.
        due("feed 4", x.feed(0x7A7A7A7A_64616F6CL, 4), 4);
        due("feed 3", x.feed(0xFFFFFFFF_FF3B3420L, 3), 7);
        due("port()", x.port(), 0);
        due("lawOf(0)", x.lawOf(0), 4);
        // The eighth byte is -1: it can't stand there.
        due("feed 8", x.feed(0xFF20202020202020L, 8), 8);
        due("port()", x.port(), -107);
        for (int i = 1; i <= 24; i++) {
            due("feed", x.feed(0x2020202020202020L, 8), 8L * i);
        }
        due("feed 1", x.feed(' ', 1), 193);
        due("feed 8 beyond", x.feed(0, 8), FULL);
        due("many(5)", x.many(5), 193);
        due("feed 7", x.feed(0x3B332064616F6CL, 7), 200);
        due("feed 1 beyond", x.feed(' ', 1), FULL);
        due("feed 0 of a full one", x.feed(' ', 0), BAD);
        due("many(5)", x.many(5), 200);
        due("port()", x.port(), 0);
        due("lawOf(0)", x.lawOf(0), 3);
    }

    private static void texts() {
        Object[][] texts = {
            {"", 0}, {"     ", 0}, {"mark on 1;", 1}, {"  mark   on  1  ink  0  ;  ", 1}, {"mark on 001;", 1},
            {"mark on 7 ink 99;", 1}, {"mark on1ink9;ship on2;", 2}, {"touch0:1with2;", 0}, {"touch 5 : 7 with 0 ;", 0},
            {"load 1;load 8;fade 0;fade 9;tide 0;tide 9;chance 0;chance 99;", 0},
            {"mark", -104}, {"mark  ", -106}, {"mark on", -107}, {"mark on 1", -109}, {"mark on 1  ", -111},
            {"mark on 1 ink", -113}, {"mark on 1 ink 5", -115}, {"touch", -105}, {"touch 0", -107}, {"touch 0:", -108},
            {"touch 0:1", -109}, {"touch 0:1 with", -114}, {"touch 0:1 with 2", -116}, {"load", -104}, {"load 3", -106},
            {"mark on 8;", -108}, {"mark in 1;", -105}, {"mark on x;", -108}, {"mark on ;", -108}, {"mark 1;", -105},
            {"mark on 0001;", -108}, {"mark on 1 ink 100;", -114}, {"mark on 1 ink 0009;", -114}, {"mark on 1 ink;", -113},
            {"markz on 1;", -100}, {"mark onz 1;", -105}, {"mark aon 1;", -105},
            {"mark on 1 on 2;", -110}, {"mark on 1 ink 2 ink 3;", -116}, {"mark on 1 2;", -110}, {"mark on 12;", -108},
            {"mark on 99999999999999;", -108}, {"mark on 4294967296;", -108},
            {"marks on 1;", -100}, {"mar on 1;", -100}, {"Mark on 1;", -100}, {";", -100}, {" 5", -101}, {"on 1;", -100},
            {"mark on 1;;", -110}, {"mark onn 1;", -105}, {"mark on 1 inks 3;", -110}, {"mark on 1:", -109},
            {"mark on 1\t;", -109}, {"mark on 1;\n", -110}, {"mark on 1; \u00e9", -111}, {"mark on \u00b1;", -108},
            {"load 0;", -105}, {"load 9;", -105}, {"load ;", -105}, {"load 3 4;", -107}, {"loads 3;", -100},
            {"fade 10;", -105}, {"tide 10;", -105}, {"chance 100;", -107}, {"chance 0099;", -107}, {"load on;", -105},
            {"touch 6:0 with 1;", -106}, {"touch 0 0 with 1;", -108}, {"touch 0;0 with 1;", -107},
            {"touch 0:8 with 1;", -108}, {"touch 0:1 on 2;", -110}, {"touch 0:1 with 8;", -115},
            {"touch 0:3 with 3;", -115}, {"touch 0:3 with 003;", -115}, {"touch 0:3 with 0003;", -115},
            {"touch 0:x with 3;", -108}, {"touch x:1 with 3;", -106}, {"touch 0:1 with x;", -115},
            {"touch 0:1 with 2:", -116}, {"to uch 0:1 with 2;", -100}, {"with", -100}, {"ink", -100},
            {"load 4; mark on 3 ink 3; ship on 9;", -133},
            {"mark on 0;".repeat(8), 8}, {"mark on 0;".repeat(8) + "ship on 1;", -180},
            {"mark on 0;".repeat(8) + "dragon", -180}, {"mark on 0;".repeat(8) + "load 9;", -185},
        };
        for (Object[] text : texts) {
            due("port() of \"" + text[0] + "\"", ported(new TravelMarks(), (String) text[0]), (int) text[1]);
        }
    }

    /** A text ends where its bytes end: what THE TAPE had behind them before is no part of it. */
    private static void textsOnOneTape() {
        TravelMarks x = new TravelMarks();
        due("port() of letters", ported(x, "z".repeat(200)), -100);
        due("port() of a NAME alone", ported(x, "mark"), -104);
        due("port() of blanks and a NAME", ported(x, " ".repeat(196) + "mark"), -300);
        due("port() of digits", ported(x, "load " + "1".repeat(195)), -105);
        due("port() of a NUMBER last", ported(x, "load 3"), -106);
        due("port() of blanks and a NUMBER", ported(x, " ".repeat(194) + "load 3"), -300);
        due("port() of blanks", ported(x, " ".repeat(200)), 0);
        due("port() of the longest text", ported(x, " ".repeat(190) + "mark on 1;"), 1);
        due("port() of orders as short as can be", ported(x, "mark on1;".repeat(8) + "load1;".repeat(21)), 8);
    }

    private static void port() {
        texts();
        textsOnOneTape();
        TravelMarks x = told("ship on 2; snake on 3 ink 0; anchor on 4 ink 99; dragon on 5; name on 7; mark on 0;"
            + "touch 0:1 with 0;touch 5:6 with 7;touch 5:7 with 5;load 8;fade 7;tide 6;chance 5;");
        dueMark(x, 0, SHIP, 9, 2);
        dueMark(x, 1, SNAKE, 0, 3);
        dueMark(x, 2, ANCHOR, 99, 4);
        dueMark(x, 3, DRAGON, 9, 5);
        dueMark(x, 4, NAME, 9, 7);
        dueMark(x, 5, MARK, 9, 0);
        due("touchOf(0, 0)", x.touchOf(0, 0), 1);
        due("touchOf(0, 1)", x.touchOf(0, 1), 0);
        due("touchOf(5, 0)", x.touchOf(5, 0), 7);
        due("touchOf(5, 1)", x.touchOf(5, 1), 5);
        due("touchOf(3, 1)", x.touchOf(3, 1), NONE);
        due("lawOf(0)", x.lawOf(0), 8);
        due("lawOf(1)", x.lawOf(1), 7);
        due("lawOf(2)", x.lawOf(2), 6);
        due("lawOf(3)", x.lawOf(3), 5);
        due("many(5)", x.many(5), 0);
        x.hours(4);
        x.prove(0, 3);
        x.seed(77);
        x.keep();
        // A fault changes nothing but that THE TAPE is used up.
        due("port() of a fault", ported(x, "load 2; fade 1; mark on 1; mark on 9;"), -135);
        due("many(5)", x.many(5), 0);
        due("many(0)", x.many(0), 6);
        due("many(4)", x.many(4), 3);
        due("lawOf(0)", x.lawOf(0), 8);
        due("state(0)", x.state(0), 4);
        // What the text doesn't tell is as at first; z stays.
        due("port() of one", ported(x, "name on 6;"), 1);
        due("many(4)", x.many(4), 0);
        due("row(0, 0)", x.row(0, 0), -9);
        due("many(3)", x.many(3), 0);
        due("lawOf(0)", x.lawOf(0), 3);
        due("lawOf(1)", x.lawOf(1), 1);
        due("lawOf(2)", x.lawOf(2), 5);
        due("lawOf(3)", x.lawOf(3), 20);
        due("state(0)", x.state(0), 0);
        due("of(1, 0)", x.of(1, 0), BAD);
        due("seed(77)", x.seed(77), 77);
        due("port() of nothing", x.port(), 0);
        due("again()", x.again(), 6);
    }

    // ---- 4 to 13

    private static void set() {
        TravelMarks x = new TravelMarks();
        int[] most = {8, 9, 9, 99};
        int[] least = {1, 0, 0, 0};
        int[] first = {3, 1, 5, 20};
        for (int law = 0; law < 4; law++) {
            due("set below", x.set(law, least[law] - 1), BAD);
            due("set above", x.set(law, most[law] + 1), BAD);
            due("set least int", x.set(law, LEAST), BAD);
            due("set most int", x.set(law, MOST), BAD);
            due("set(" + law + ", most)", x.set(law, most[law]), first[law]);
            due("lawOf(" + law + ")", x.lawOf(law), most[law]);
            due("set(" + law + ", least)", x.set(law, least[law]), most[law]);
            due("lawOf(" + law + ")", x.lawOf(law), least[law]);
        }
        due("set(0, 0)", x.set(0, 0), BAD);
        due("set(-1, 1)", x.set(-1, 1), BAD);
        due("set(4, 1)", x.set(4, 1), BAD);
        due("set(least, 1)", x.set(LEAST, 1), BAD);
    }

    private static void lawOf() {
        TravelMarks x = told("load 2; fade 4; tide 6; chance 8;");
        for (int law = 0; law < 4; law++) {
            due("lawOf(" + law + ")", x.lawOf(law), 2 * law + 2);
        }
        due("lawOf(-1)", x.lawOf(-1), BAD);
        due("lawOf(4)", x.lawOf(4), BAD);
        due("lawOf(most)", x.lawOf(MOST), BAD);
    }

    private static void mark() {
        TravelMarks x = new TravelMarks();
        int[][] bad = {{-1, 0, 0}, {6, 0, 0}, {0, -1, 0}, {0, 100, 0}, {0, 0, -1}, {0, 0, 8}, {MOST, LEAST, MOST}};
        for (int[] b : bad) {
            due("mark of what is not as told", x.mark(b[0], b[1], b[2]), BAD);
        }
        due("many(0)", x.many(0), 0);
        for (int i = 0; i < 8; i++) {
            due("mark", x.mark(i % 6, i == 7 ? 99 : i, i), i);
            dueMark(x, i, i % 6, i == 7 ? 99 : i, i);
        }
        due("mark of a ninth", x.mark(0, 0, 0), FULL);
        for (int[] b : bad) {
            due("mark of a ninth that is not as told", x.mark(b[0], b[1], b[2]), BAD);
        }
        due("many(0)", x.many(0), 8);
    }

    private static void goes(String text, int mark, int answer) {
        due("of(" + mark + ", 4) by \"" + text + "\"", told(text).of(mark, 4), answer);
    }

    private static void goesOfKinds() {
        goes("mark on 1;", 0, 0);
        goes("mark on 1; touch 0:1 with 2;", 0, 1);
        goes("mark on 1; touch 0:2 with 1;", 0, 1);
        goes("mark on 1; touch 0:2 with 3;", 0, 0);
        goes("mark on 1; touch 1:1 with 2;", 0, 0);
        goes("mark on 1 ink 0; touch 0:1 with 2;", 0, 0);
        goes("mark on 1 ink 1; touch 0:1 with 2;", 0, 1);
        // ship: room is told by those ON the other one, by LOAD
        goes("ship on 1; touch 0:1 with 2;", 0, 1);
        goes("ship on 1 ink 0; touch 0:1 with 2;", 0, 0);
        goes("ship on 1; mark on 2; mark on 2; touch 0:1 with 2;", 0, 1);
        goes("ship on 1; mark on 2; mark on 2; mark on 2; touch 0:1 with 2;", 0, 0);
        goes("ship on 1; mark on 1; mark on 1; mark on 1; touch 0:1 with 2;", 0, 1);
        goes("ship on 1; mark on 2; touch 0:1 with 2; load 1;", 0, 0);
        goes("ship on 1; mark on 2; touch 0:1 with 2; load 2;", 0, 1);
        goes("mark on 1; mark on 2; touch 0:1 with 2; load 1;", 0, 1);
        // anchor
        goes("anchor on 1; touch 0:1 with 2;", 0, 1);
        goes("anchor on 1 ink 0; touch 0:1 with 2;", 0, 0);
        goes("anchor on 1; mark on 2; touch 0:1 with 2; load 1;", 0, 0);
        TravelMarks x = told("anchor on 1; touch 1:1 with 2; touch 2:1 with 2;");
        x.hours(1);
        due("of an anchor in an odd HOUR", x.of(0, 4), 0);
        x.hours(1);
        due("of an anchor in an even HOUR", x.of(0, 4), 1);
        // snake
        goes("snake on 1; touch 0:1 with 2;", 0, 1);
        goes("snake on 2; touch 0:1 with 2;", 0, 0);
        goes("snake on 1 ink 0; touch 0:1 with 2;", 0, 0);
        // dragon
        goes("dragon on 1 ink 1; touch 0:1 with 2;", 0, 1);
        goes("dragon on 2 ink 4; touch 0:1 with 2;", 0, 0);
        goes("dragon on 2 ink 5; touch 0:1 with 2;", 0, 1);
        goes("dragon on 1 ink 0; touch 0:1 with 2;", 0, 0);
        goes("dragon on 1 ink 0; touch 0:1 with 2; tide 0;", 0, 1);
        goes("dragon on 2 ink 0; touch 0:1 with 2; tide 0;", 0, 1);
        goes("snake on 2 ink 99; touch 0:1 with 2; tide 0;", 0, 0);
        // name
        goes("name on 1; touch 0:1 with 2;", 0, 1);
        goes("name on 1 ink 0; touch 0:1 with 2;", 0, 0);
        goes("name on 1; name on 2; touch 0:1 with 2;", 0, 0);
        goes("name on 1; name on 2; touch 0:1 with 2;", 1, 0);
        goes("name on 1; name on 1; touch 0:1 with 2;", 0, 1);
        goes("name on 1; mark on 2; ship on 2; touch 0:1 with 2;", 0, 1);
        goes("mark on 1; name on 2; touch 0:1 with 2;", 0, 1);
    }

    private static void of() {
        goesOfKinds();
        TravelMarks x = told("mark on 1; ship on 1; snake on 1; anchor on 1; dragon on 1; name on 1;");
        int[] fades = {1001, 1002, 999, 1004, 994, 1000};
        for (int kind = 0; kind < 6; kind++) {
            due("of(" + kind + ", 3)", x.of(kind, 3), fades[kind]);
        }
        x.set(1, 7);
        x.set(2, 2);
        int[] more = {1007, 1008, 1005, 1016, 1003, 1000};
        for (int kind = 0; kind < 6; kind++) {
            due("of(" + kind + ", 3)", x.of(kind, 3), more[kind]);
        }
        x = told("dragon on 6 ink 42;");
        dueMark(x, 0, DRAGON, 42, 6);
        due("of(0, 5)", x.of(0, 5), BAD);
        due("of(0, -1)", x.of(0, -1), BAD);
        due("of(1, 0)", x.of(1, 0), BAD);
        due("of(-1, 0)", x.of(-1, 0), BAD);
        due("of(8, 0)", x.of(8, 0), BAD);
        due("of(most, least)", x.of(MOST, LEAST), BAD);
    }

    private static void mind() {
        TravelMarks x = told("mark on 1; ship on 6 ink 7;");
        due("mind(1, 4, 99)", x.mind(1, 4, 99), SHIP);
        dueMark(x, 1, DRAGON, 99, 6);
        dueMark(x, 0, MARK, 9, 1);
        due("mind(1, 4, 0)", x.mind(1, 4, 0), DRAGON);
        due("mind(2, 0, 0)", x.mind(2, 0, 0), BAD);
        due("mind(-1, 0, 0)", x.mind(-1, 0, 0), BAD);
        due("mind(0, 6, 0)", x.mind(0, 6, 0), BAD);
        due("mind(0, -1, 0)", x.mind(0, -1, 0), BAD);
        due("mind(0, 0, -1)", x.mind(0, 0, -1), BAD);
        due("mind(0, 5, 100)", x.mind(0, 5, 100), BAD);
        dueMark(x, 0, MARK, 9, 1);
        dueMark(x, 1, DRAGON, 0, 6);
    }

    private static void move() {
        TravelMarks x = told("mark on 1; ship on 6 ink 7;");
        due("move(1, 0)", x.move(1, 0), 6);
        due("move(1, 7)", x.move(1, 7), 0);
        due("move(1, 7)", x.move(1, 7), 7);
        dueMark(x, 1, SHIP, 7, 7);
        dueMark(x, 0, MARK, 9, 1);
        due("move(2, 0)", x.move(2, 0), BAD);
        due("move(-1, 0)", x.move(-1, 0), BAD);
        due("move(0, 8)", x.move(0, 8), BAD);
        due("move(0, -1)", x.move(0, -1), BAD);
        due("of(0, 2)", x.of(0, 2), 1);
    }

    private static void touch() {
        TravelMarks x = new TravelMarks();
        due("touch(0, 0, 7)", x.touch(0, 0, 7), 1);
        due("touch(5, 7, 0)", x.touch(5, 7, 0), 1);
        due("touch(5, 6, 1)", x.touch(5, 6, 1), 1);
        int[][] bad = {{-1, 0, 1}, {6, 0, 1}, {0, -1, 1}, {0, 8, 1}, {0, 1, -1}, {0, 1, 8}, {0, 3, 3}, {0, MOST, LEAST}};
        for (int[] b : bad) {
            due("touch of what is not as told", x.touch(b[0], b[1], b[2]), BAD);
        }
        due("touchOf(0, 0)", x.touchOf(0, 0), 0);
        due("touchOf(0, 1)", x.touchOf(0, 1), 7);
        due("touchOf(5, 0)", x.touchOf(5, 0), 6);
        due("touchOf(5, 1)", x.touchOf(5, 1), 1);
        due("many(3)", x.many(3), 2);
        // Once in six HOURS.
        x.mark(MARK, 99, 0);
        x.hours(1);
        due("of(0, 2)", x.of(0, 2), 7);
        x.hours(5);
        due("of(0, 2)", x.of(0, 2), 7);
        x.hours(1);
        due("of(0, 2)", x.of(0, 2), 0);
    }

    private static void part() {
        TravelMarks x = told("touch 0:1 with 2; touch 5:1 with 2; mark on 1;");
        due("part(6)", x.part(6), BAD);
        due("part(-1)", x.part(-1), BAD);
        due("part(1)", x.part(1), 0);
        due("part(0)", x.part(0), 1);
        due("part(0)", x.part(0), 0);
        due("touchOf(0, 0)", x.touchOf(0, 0), NONE);
        due("touchOf(5, 0)", x.touchOf(5, 0), 1);
        due("part(5)", x.part(5), 1);
        due("many(3)", x.many(3), 0);
        x.hours(6);
        due("of(0, 2)", x.of(0, 2), 1);
    }

    private static void touchOf() {
        TravelMarks x = told("touch 0:1 with 2; touch 5:0 with 7;");
        due("touchOf(0, 0)", x.touchOf(0, 0), 1);
        due("touchOf(0, 1)", x.touchOf(0, 1), 2);
        due("touchOf(5, 0)", x.touchOf(5, 0), 0);
        due("touchOf(5, 1)", x.touchOf(5, 1), 7);
        due("touchOf(1, 0)", x.touchOf(1, 0), NONE);
        due("touchOf(1, 1)", x.touchOf(1, 1), NONE);
        due("touchOf(1, 2)", x.touchOf(1, 2), BAD);
        due("touchOf(1, -1)", x.touchOf(1, -1), BAD);
        due("touchOf(6, 0)", x.touchOf(6, 0), BAD);
        due("touchOf(-1, 0)", x.touchOf(-1, 0), BAD);
    }

    private static void who() {
        TravelMarks x = told("mark on 3; ship on 0; name on 3; mark on 7;"
            + "touch 0:5 with 6; touch 1:4 with 5; touch 2:3 with 4; touch 3:2 with 3; touch 4:1 with 2; touch 5:0 with 1;");
        due("who(3, 0)", x.who(3, 0), 0b101);
        due("who(0, 0)", x.who(0, 0), 0b10);
        due("who(7, 0)", x.who(7, 0), 0b1000);
        due("who(1, 0)", x.who(1, 0), 0);
        for (int who = 0; who < 7; who++) {
            due("who(" + who + ", 1)", x.who(who, 1), 127);
        }
        due("who(7, 1)", x.who(7, 1), 128);
        x.part(2);
        due("who(0, 1)", x.who(0, 1), 0b1111);
        due("who(6, 1)", x.who(6, 1), 0b1110000);
        due("who(8, 0)", x.who(8, 0), BAD);
        due("who(-1, 0)", x.who(-1, 0), BAD);
        due("who(0, 2)", x.who(0, 2), BAD);
        due("who(0, -1)", x.who(0, -1), BAD);
    }

    // ---- 14 to 18

    private static void hours() {
        TravelMarks x = told("mark on 1 ink 2; mark on 2 ink 5; touch 0:1 with 2; touch 1:2 with 3; touch 2:3 with 1;");
        due("hours(0)", x.hours(0), BAD);
        due("hours(61)", x.hours(61), BAD);
        due("hours(-1)", x.hours(-1), BAD);
        due("state(0)", x.state(0), 0);
        // They change places, in one HOUR.
        due("hours(1)", x.hours(1), 2);
        dueMark(x, 0, MARK, 1, 2);
        dueMark(x, 1, MARK, 4, 1);
        due("hours(1)", x.hours(1), 2);
        dueMark(x, 0, MARK, 0, 3);
        due("hours(1)", x.hours(1), 1);
        dueMark(x, 0, MARK, 0, 3);
        dueMark(x, 1, MARK, 3, 3);
        x = told("mark on 1; snake on 1; touch 0:1 with 2; touch 2:2 with 1; touch 5:1 with 2;");
        due("hours(2)", x.hours(2), 1);
        due("hours(1)", x.hours(1), 2);
        due("state(0)", x.state(0), 3);
        due("hours(60)", x.hours(60), 1);
        due("state(0)", x.state(0), 63);
        due("hours of none", new TravelMarks().hours(60), 0);
    }

    private static void hoursTogether() {
        // By all as the HOUR begins: both ships find room for one, though they come to be more than LOAD together.
        TravelMarks x = told("ship on 1; ship on 1; mark on 2; touch 0:1 with 2; load 2;");
        x.hours(1);
        due("where two ships go", x.who(2, 0), 0b011);
        due("where the mark goes", x.who(1, 0), 0b100);
        x = told("name on 1; name on 1; touch 0:1 with 2;");
        due("hours(1) of two names", x.hours(1), 1);
        due("who(2, 0)", x.who(2, 0), 0b11);
        // INK: held to 0 to 99, of those that went over alone.
        x = told("ship on 1 ink 3; anchor on 1 ink 15; snake on 1 ink 99; dragon on 1 ink 20; name on 1 ink 7;"
            + "mark on 2 ink 98; mark on 3 ink 50; touch 0:1 with 2; fade 9; load 8;");
        x.hours(1);
        dueMark(x, 0, SHIP, 0, 2);
        dueMark(x, 1, ANCHOR, 0, 2);
        dueMark(x, 2, SNAKE, 92, 2);
        dueMark(x, 3, DRAGON, 18, 2);
        dueMark(x, 4, NAME, 7, 2);
        dueMark(x, 5, MARK, 89, 1);
        dueMark(x, 6, MARK, 50, 3);
        x = told("snake on 1 ink 98; dragon on 1 ink 90; snake on 2; touch 0:1 with 2; fade 0; tide 9;");
        x.hours(1);
        dueMark(x, 0, SNAKE, 99, 2);
        dueMark(x, 1, DRAGON, 99, 2);
        dueMark(x, 2, SNAKE, 9, 2);
    }

    private static void seed() {
        TravelMarks x = new TravelMarks();
        due("seed(-5)", x.seed(-5), 1);
        due("seed(least)", x.seed(LEAST), -5);
        due("seed(most)", x.seed(MOST), LEAST);
        due("seed(0)", x.seed(0), MOST);
        x.hour();
        // Two draws: what the second one leaves by 100 (68) is not below CHANCE.
        due("seed(1)", x.seed(1), 12345 * 1103515245 + 12345);
    }

    private static void hour() {
        // From 1: 16838 (6 by 8), 38526 (26 by 100), 10113 (1 by 8).
        String text = "ship on 6; mark on 1; mark on 5; touch 0:1 with 4;";
        TravelMarks x = told(text + "chance 26;");
        due("hour()", x.hour(), 3);
        due("seed(0)", x.seed(0), -1770082073);
        dueMark(x, 0, SHIP, 9, 6);
        dueMark(x, 1, MARK, 8, 4);
        due("state(0)", x.state(0), 1);
        x = told(text + "chance 27;");
        due("hour()", x.hour(), 3);
        due("seed(0)", x.seed(0), 662824084);
        dueMark(x, 0, SHIP, 5, 4);
        dueMark(x, 1, MARK, 8, 6);
        dueMark(x, 2, MARK, 9, 5);
        due("state(0)", x.state(0), 1);
        // The chance touch is as in an HOUR that begins now: an anchor goes in an even one alone.
        x = told("anchor on 6 ink 20; chance 99;");
        x.hour();
        dueMark(x, 0, ANCHOR, 16, 1);
        x = told("anchor on 6 ink 20; chance 99;");
        x.hours(1);
        x.hour();
        dueMark(x, 0, ANCHOR, 20, 6);
        due("state(0)", x.state(0), 2);
        // What went over in the HOUR before stays where it is when others touch by chance.
        x = told("mark on 5; mark on 6; touch 0:5 with 7; chance 99;");
        x.hours(1);
        x.hour();
        dueMark(x, 0, MARK, 8, 7);
        dueMark(x, 1, MARK, 8, 1);
        // From 6: 6, 15 by 100, and 6 once more: nothing but three draws.
        x = told("mark on 6; chance 16;");
        x.seed(6);
        due("hour()", x.hour(), 1);
        dueMark(x, 0, MARK, 9, 6);
        int z = 6;
        for (int i = 0; i < 3; i++) {
            z = z * 1103515245 + 12345;
        }
        due("seed(0)", x.seed(0), z);
        x = told("mark on 1; name on 2; chance 0;");
        due("hour()", x.hour(), 2);
        due("state(0)", x.state(0), 1);
        due("hour() of none", new TravelMarks().hour(), 0);
    }

    private static void stir() {
        // From 1, all by chance: 6 and 1, 3 and 3, 2 and 4, 6 and 7, 4 and 1, 7 and 7, 1 and 6, 2 and 7.
        TravelMarks x = told("mark on 1; chance 99;");
        int[] dues = {1, 1, 1, 1, 2, 2, 3, 3};
        for (int n = 1; n <= 8; n++) {
            due("stir(" + n + ")", x.stir(n), dues[n - 1]);
        }
        due("stir(0)", x.stir(0), BAD);
        due("stir(31)", x.stir(31), BAD);
        due("stir(-1)", x.stir(-1), BAD);
        dueMark(x, 0, MARK, 9, 1);
        due("state(0)", x.state(0), 0);
        due("seed(1)", x.seed(1), 1);
        // It is held against an HOUR, not against now.
        x = told("mark on 1; touch 0:1 with 6; chance 99;");
        due("stir(1)", x.stir(1), 1);
        due("stir(2)", x.stir(2), 1);
        x = told("mark on 1; touch 0:1 with 6; chance 0;");
        due("stir(30)", x.stir(30), 0);
        due("seed(1)", x.seed(1), 1);
        x = told("mark on 5; mark on 1; chance 99;");
        due("stir(1) of the second one", x.stir(1), 1);
        due("stir(30) of none", new TravelMarks().stir(30), 0);
    }

    private static void state() {
        TravelMarks x = told("mark on 3 ink 0; ship on 3 ink 99; name on 3 ink 5; mark on 7 ink 0; dragon on 0 ink 1;"
            + "touch 0:1 with 2; touch 1:2 with 1; touch 2:5 with 7; touch 3:2 with 4;");
        due("state(0)", x.state(0), 0);
        due("state(1)", x.state(1), 105);
        due("state(2)", x.state(2), 0b10001001);
        due("state(3)", x.state(3), 5);
        due("state(4)", x.state(4), 0b1001);
        due("state(5)", x.state(5), 3);
        x.hours(7);
        due("state(0)", x.state(0), 7);
        due("state(6)", x.state(6), BAD);
        due("state(-1)", x.state(-1), BAD);
        due("state(5) where most are ON 0", told("mark on 0; mark on 0; mark on 3;").state(5), 2);
        due("state(5) where most are ON 7", told("mark on 0; mark on 7; mark on 7;").state(5), 2);
        x = told("touch 0:0 with 1; touch 1:2 with 3; touch 2:4 with 5; touch 3:6 with 7;");
        due("state(3)", x.state(3), 4);
        due("state(5)", x.state(5), 0);
        x.touch(4, 7, 1);
        x.touch(5, 2, 5);
        due("state(3)", x.state(3), 2);
    }

    // ---- 19 to 29

    private static void where() {
        TravelMarks x = told("mark on 0 ink 3; mark on 7; touch 0:0 with 1; touch 1:1 with 2; touch 2:2 with 3; touch 3:3 with 4;");
        int[] on = {0, 1, 2, 3, 3, 3, 3};
        for (int n = 0; n < on.length; n++) {
            due("where(0, " + n + ")", x.where(0, n), on[n]);
        }
        due("where(1, 60)", x.where(1, 60), 7);
        due("where(0, 61)", x.where(0, 61), BAD);
        due("where(0, -1)", x.where(0, -1), BAD);
        due("where(2, 0)", x.where(2, 0), BAD);
        due("where(-1, 0)", x.where(-1, 0), BAD);
        dueMark(x, 0, MARK, 3, 0);
        due("state(0)", x.state(0), 0);
        x = told("mark on 0 ink 99; touch 5:0 with 1;");
        due("where(0, 5)", x.where(0, 5), 0);
        due("where(0, 6)", x.where(0, 6), 1);
        due("where(0, 59)", x.where(0, 59), 1);
        due("where(0, 60)", x.where(0, 60), 0);
    }

    private static void comes() {
        TravelMarks x = told("mark on 0 ink 3; mark on 7; touch 0:0 with 1; touch 1:1 with 2; touch 2:2 with 3; touch 3:3 with 4;");
        for (int who = 0; who < 4; who++) {
            due("comes(0, " + who + ")", x.comes(0, who), who);
        }
        due("comes(0, 4)", x.comes(0, 4), NONE);
        due("comes(1, 7)", x.comes(1, 7), 0);
        due("comes(0, 8)", x.comes(0, 8), BAD);
        due("comes(0, -1)", x.comes(0, -1), BAD);
        due("comes(2, 0)", x.comes(2, 0), BAD);
        due("comes(-1, 8)", x.comes(-1, 8), BAD);
        due("of(0, 2)", x.of(0, 2), 0);
        due("comes behind 60", told(FREE_BEHIND_60).comes(0, 1), 60);
        due("comes behind 61", told(FREE_BEHIND_61).comes(0, 1), NONE);
    }

    private static void bare() {
        TravelMarks x = told("mark on 0 ink 3; mark on 0 ink 2; mark on 7; touch 0:0 with 1; touch 1:1 with 2; touch 2:2 with 3;");
        due("bare(0)", x.bare(0), 1);
        due("bare(1)", x.bare(1), 0);
        due("bare(2)", x.bare(2), 0);
        due("bare(7)", x.bare(7), NONE);
        due("bare(8)", x.bare(8), BAD);
        due("bare(-1)", x.bare(-1), BAD);
        due("state(0)", x.state(0), 0);
        x.hours(1);
        due("bare(0)", x.bare(0), 0);
        due("bare(1)", x.bare(1), 1);
        x.hours(1);
        // One of the two stays on 2, without INK.
        due("bare(2)", x.bare(2), NONE);
        due("bare behind 60", told(FREE_BEHIND_60).bare(0), 60);
        due("bare behind 61", told(FREE_BEHIND_61).bare(0), NONE);
    }

    private static void dry() {
        due("dry() of none", new TravelMarks().dry(), 0);
        due("dry() of dry ones", told("mark on 0 ink 0; dragon on 1 ink 0; touch 0:0 with 1;").dry(), 0);
        TravelMarks x = told("mark on 0 ink 2; mark on 1 ink 1; touch 0:0 with 1; touch 3:0 with 1;");
        due("dry()", x.dry(), 4);
        dueMark(x, 0, MARK, 2, 0);
        x.mark(NAME, 1, 5);
        due("dry() with a name", x.dry(), NONE);
        due("dry() behind 60", told("mark on 0 ink 10; touch 5:0 with 1;").dry(), 60);
        due("dry() behind 61", told("mark on 0 ink 11; touch 0:0 with 1;").dry(), NONE);
    }

    /** What every wish refuses: the numbers of a MARK, of one of PEOPLE and of HOURS that are not as told. */
    private static final int[][] BAD_WISHES = {
        {1, 0, 0}, {-1, 0, 0}, {8, 0, 0}, {0, 8, 0}, {0, -1, 0}, {0, 0, -1}, {0, 0, 31}, {MOST, LEAST, MOST},
    };

    private static void kindFor() {
        TravelMarks x = told("mark on 5 ink 4; touch 0:5 with 1; touch 1:5 with 7;");
        due("kindFor: a snake stays for the second touch", x.kindFor(0, 7, 5), SNAKE);
        due("kindFor within 2", x.kindFor(0, 7, 2), SNAKE);
        due("kindFor within 1: none", x.kindFor(0, 7, 1), MARK);
        due("kindFor within 0: none", x.kindFor(0, 7, 0), MARK);
        due("kindFor: all at once", x.kindFor(0, 5, 30), MARK);
        due("kindFor: never", x.kindFor(0, 6, 30), MARK);
        dueMark(x, 0, MARK, 4, 5);
        for (int[] b : BAD_WISHES) {
            due("kindFor of what is not as told", x.kindFor(b[0], b[1], b[2]), BAD);
        }
        x = told("mark on 5 ink 4; touch 0:5 with 1; touch 1:5 with 7; touch 2:1 with 7;");
        due("kindFor: sooner than a mark", x.kindFor(0, 7, 9), SNAKE);
        x = told("snake on 5 ink 4; touch 0:5 with 1;");
        due("kindFor: least of several", x.kindFor(0, 1, 9), MARK);
        x = told("mark on 5 ink 4; snake on 1 ink 0; touch 0:5 with 1; touch 1:5 with 7; load 1;");
        due("kindFor: no room for a ship", x.kindFor(0, 7, 5), SHIP);
        x = told("mark on 5 ink 4; touch 1:5 with 6; touch 2:5 with 0;");
        x.hours(1);
        due("kindFor: an anchor waits", x.kindFor(0, 0, 5), ANCHOR);
        x = told("mark on 5 ink 0; touch 0:5 with 1; tide 0;");
        due("kindFor: a dragon by TIDE", x.kindFor(0, 1, 3), DRAGON);
        x = told("mark on 5 ink 4; name on 6 ink 0; touch 0:5 with 6; touch 1:5 with 0;");
        due("kindFor: names don't lie together", x.kindFor(0, 0, 5), NAME);
        x = told("mark on 5 ink 0; touch 5:5 with 1; tide 0;");
        x.hours(6);
        for (int start = 0; start < 6; start++) {
            due("kindFor in its HOURS", x.kindFor(0, 1, 6 - start), DRAGON);
            due("kindFor an HOUR too few", x.kindFor(0, 1, 5 - start), MARK);
            x.hours(1);
            x.mind(0, MARK, 0);
        }
    }

    private static void inkFor() {
        TravelMarks x = told("mark on 0 ink 50; touch 0:0 with 1; touch 1:1 with 2; touch 2:2 with 3;");
        due("inkFor(0, 3, 3)", x.inkFor(0, 3, 3), 3);
        due("inkFor(0, 3, 30)", x.inkFor(0, 3, 30), 3);
        due("inkFor(0, 3, 2)", x.inkFor(0, 3, 2), NONE);
        due("inkFor(0, 1, 1)", x.inkFor(0, 1, 1), 1);
        due("inkFor(0, 1, 0)", x.inkFor(0, 1, 0), NONE);
        due("inkFor(0, 0, 0)", x.inkFor(0, 0, 0), 0);
        due("inkFor(0, 7, 30)", x.inkFor(0, 7, 30), NONE);
        x.set(1, 9);
        due("inkFor by FADE 9", x.inkFor(0, 3, 3), 19);
        x.mind(0, SHIP, 0);
        due("inkFor of a ship", x.inkFor(0, 3, 3), 21);
        x.mind(0, NAME, 0);
        due("inkFor of a name", x.inkFor(0, 3, 3), 1);
        dueMark(x, 0, NAME, 0, 0);
        for (int[] b : BAD_WISHES) {
            due("inkFor of what is not as told", x.inkFor(b[0], b[1], b[2]), BAD);
        }
        // Ten ways to and fro at 9 each, and one more.
        x = told("mark on 0;touch 0:0 with 1;touch 1:0 with 1;touch 2:0 with 1;touch 3:0 with 1;touch 4:0 with 1;"
            + "touch 5:0 with 2;fade 9;");
        due("inkFor(0, 2, 12)", x.inkFor(0, 2, 12), 91);
        due("inkFor(0, 2, 11)", x.inkFor(0, 2, 11), NONE);
        x.mind(0, SHIP, 99);
        due("inkFor(0, 2, 30) with none", x.inkFor(0, 2, 30), NONE);
        x = told("dragon on 6; touch 0:1 with 6; tide 7;");
        due("inkFor of a dragon", x.inkFor(0, 1, 1), 7);
        x = told("mark on 7; touch 5:0 with 7;");
        x.hours(6);
        due("inkFor(0, 7, 5)", x.inkFor(0, 7, 5), NONE);
        due("inkFor(0, 7, 6)", x.inkFor(0, 7, 6), 1);
    }

    private static void touchFor() {
        TravelMarks x = told("mark on 2;");
        due("touchFor(0, 6, 1)", x.touchFor(0, 6, 1), 26);
        due("touchFor(0, 1, 30)", x.touchFor(0, 1, 30), 12);
        due("touchFor(0, 0, 30)", x.touchFor(0, 0, 30), 2);
        due("touchFor(0, 2, 30)", x.touchFor(0, 2, 30), NONE);
        due("touchFor(0, 6, 0)", x.touchFor(0, 6, 0), NONE);
        x.hours(5);
        due("touchFor from rest 5", x.touchFor(0, 7, 9), 527);
        due("touchOf(5, 0)", x.touchOf(5, 0), NONE);
        dueMark(x, 0, MARK, 9, 2);
        for (int[] b : BAD_WISHES) {
            due("touchFor of what is not as told", x.touchFor(b[0], b[1], b[2]), BAD);
        }
        x = told("mark on 0; touch 0:0 with 3;");
        due("touchFor: not sooner than as it is", x.touchFor(0, 3, 9), NONE);
        x = told("mark on 0; touch 0:0 with 1; touch 2:1 with 3;");
        due("touchFor in place of what there is", x.touchFor(0, 3, 9), 3);
        due("touchFor where as it is takes longer", x.touchFor(0, 3, 1), 3);
        x = told("anchor on 0; touch 2:0 with 3;");
        x.hours(1);
        due("touchFor: an anchor is as soon as it is", x.touchFor(0, 3, 9), NONE);
        x.part(2);
        due("touchFor of an anchor", x.touchFor(0, 3, 9), 203);
        due("touchFor of an anchor within 2", x.touchFor(0, 3, 2), 203);
        due("touchFor of an anchor within 1", x.touchFor(0, 3, 1), NONE);
        // The touch may be of others: those that make room.
        x = told("ship on 0; snake on 3; touch 1:0 with 3; load 1;");
        due("touchFor: the least other one", x.touchFor(0, 3, 9), 34);
        due("touchFor within 1", x.touchFor(0, 3, 1), NONE);
        x = told("ship on 0; mark on 3; touch 1:0 with 3; load 1;");
        due("touchFor: the lesser least number", x.touchFor(0, 3, 9), 3);
        x = told("ship on 0; snake on 3; touch 2:0 with 3; load 1;");
        due("touchFor: the least rest", x.touchFor(0, 3, 9), 34);
        due("touchFor within 2", x.touchFor(0, 3, 2), NONE);
        x = told("mark on 0 ink 0;");
        due("touchFor of a dry one", x.touchFor(0, 3, 30), NONE);
    }

    private static void apartFor() {
        TravelMarks x = told("mark on 0; touch 0:0 with 1; touch 1:1 with 2;");
        due("apartFor(0, 2, 9)", x.apartFor(0, 2, 9), 1);
        due("apartFor(0, 2, 2)", x.apartFor(0, 2, 2), 1);
        due("apartFor(0, 2, 1)", x.apartFor(0, 2, 1), 0);
        due("apartFor(0, 3, 30)", x.apartFor(0, 3, 30), 0);
        due("apartFor(0, 0, 0)", x.apartFor(0, 0, 0), NONE);
        due("apartFor(0, 0, 30)", x.apartFor(0, 0, 30), NONE);
        due("touchOf(0, 0)", x.touchOf(0, 0), 0);
        for (int[] b : BAD_WISHES) {
            due("apartFor of what is not as told", x.apartFor(b[0], b[1], b[2]), BAD);
        }
        x = told("snake on 0; touch 0:0 with 1; touch 1:0 with 1; touch 5:1 with 2;");
        due("apartFor: fewest before least", x.apartFor(0, 2, 30), 32);
        due("apartFor of two rests", x.apartFor(0, 1, 30), 3);
        x = told("snake on 0; touch 0:0 with 1; touch 1:0 with 1; touch 2:0 with 1;"
            + "touch 3:0 with 1; touch 4:0 with 1; touch 5:0 with 1;");
        due("apartFor of all rests", x.apartFor(0, 1, 30), 63);
        due("apartFor of all rests within 6", x.apartFor(0, 1, 6), 63);
        due("apartFor within 5", x.apartFor(0, 1, 5), 31);
        due("apartFor within 1", x.apartFor(0, 1, 1), 1);
        due("apartFor within 0", x.apartFor(0, 1, 0), 0);
    }

    private static void dueFits(TravelMarks x, int mark, int many, int least, int... items) {
        for (int sort = 0; sort < 4; sort++) {
            sheetOf(x, sort, sort, items);
            due("fits(" + sort + ", " + mark + ", 0)", x.fits(sort, mark, 0), many);
            due("fits(" + sort + ", " + mark + ", 1)", x.fits(sort, mark, 1), least);
        }
    }

    private static void fits() {
        TravelMarks x = told("mark on 0; mark on 5; touch 0:0 with 1; touch 1:1 with 2;");
        due("fits of a missing SHEET", x.fits(3, 1, 0), -11);
        due("fits of a missing SHEET", x.fits(3, 1, 1), -11);
        due("fits(4, 0, 0)", x.fits(4, 0, 0), BAD);
        due("fits(-1, 0, 0)", x.fits(-1, 0, 0), BAD);
        due("fits(3, 2, 0)", x.fits(3, 2, 0), BAD);
        due("fits(3, -1, 0)", x.fits(3, -1, 0), BAD);
        due("fits(3, 0, 2)", x.fits(3, 0, 2), BAD);
        due("fits(3, 0, -1)", x.fits(3, 0, -1), BAD);
        dueFits(x, 1, 8, 0);
        dueFits(x, 1, 1, 0, 1, 2);
        dueFits(x, 0, 1, 1, 0);
        dueFits(x, 0, 8, 0, -1, -1);
        dueFits(x, 0, 1, 0, -1, 2);
        dueFits(x, 0, 1, 2, -1, 1);
        dueFits(x, 0, 1, 3, 3, 3);
        dueFits(x, 0, 1, 7, -1, 7);
        dueFits(x, 0, 0, NONE, 8);
        dueFits(x, 0, 0, NONE, -2);
        dueFits(x, 0, 0, NONE, 2, 2);
        dueMark(x, 0, MARK, 9, 0);
        due("state(0)", x.state(0), 0);
        // A SHEET's number is what is left of it when narrowed.
        sheetOf(x, 0, 0, 255, 258);
        due("fits of bytes", x.fits(0, 0, 0), 1);
        sheetOf(x, 1, 1, 255, 258);
        due("fits of shorts", x.fits(1, 0, 0), 0);
        int[] any = new int[40];
        java.util.Arrays.fill(any, -1);
        sheetOf(x, 0, 0, any);
        due("fits of 40", x.fits(0, 0, 0), 8);
        x.put(0, 39, 6);
        due("fits of 40", x.fits(0, 0, 0), 1);
        due("fits of 40", x.fits(0, 0, 1), 6);
        // All but the one are as now, and it is ON the one that it might be ON: two names.
        x = told("name on 4; name on 1; touch 0:0 with 1;");
        sheetOf(x, 0, 0, 0);
        due("fits of a name", x.fits(0, 0, 0), 2);
        due("fits of a name", x.fits(0, 0, 1), 0);
        sheetOf(x, 0, 0, 1);
        due("fits of a name", x.fits(0, 0, 0), 0);
    }

    private static void dueOdds(TravelMarks x, int n, int k, long above, long below) {
        due("odds(" + n + ", " + k + ", 0)", x.odds(n, k, 0), above);
        due("odds(" + n + ", " + k + ", 1)", x.odds(n, k, 1), below);
    }

    private static void odds() {
        TravelMarks x = new TravelMarks();
        dueOdds(x, 0, 0, 1, 1);
        dueOdds(x, 1, 0, 4, 5);
        dueOdds(x, 1, 1, 1, 5);
        dueOdds(x, 2, 0, 16, 25);
        dueOdds(x, 2, 1, 8, 25);
        dueOdds(x, 2, 2, 1, 25);
        dueOdds(x, 8, 4, 70 * 256 / 5, 390625 / 5);
        int[][] bad = {{9, 0, 0}, {-1, 0, 0}, {8, 9, 0}, {3, 4, 1}, {3, -1, 0}, {3, 1, 2}, {3, 1, -1}, {LEAST, MOST, 0}};
        for (int[] b : bad) {
            due("odds of what is not as told", x.odds(b[0], b[1], b[2]), BAD);
        }
        x.set(3, 99);
        dueOdds(x, 8, 8, 9227446944279201L, 10000000000000000L);
        dueOdds(x, 8, 0, 1, 10000000000000000L);
        dueOdds(x, 8, 7, 93206534790699L, 10000000000000000L / 8);
        x.set(3, 0);
        dueOdds(x, 5, 0, 1, 1);
        dueOdds(x, 5, 1, 0, 1);
        dueOdds(x, 8, 8, 0, 1);
        x.set(3, 50);
        dueOdds(x, 8, 4, 35, 128);
    }

    private static void hope() {
        TravelMarks x = new TravelMarks();
        int[][] dues = {{0, 0, 1}, {1, 1, 5}, {5, 1, 1}, {7, 7, 5}, {10, 2, 1}, {99, 99, 5}};
        for (int[] d : dues) {
            due("hope(" + d[0] + ", 0)", x.hope(d[0], 0), d[1]);
            due("hope(" + d[0] + ", 1)", x.hope(d[0], 1), d[2]);
        }
        due("hope(-1, 0)", x.hope(-1, 0), BAD);
        due("hope(100, 0)", x.hope(100, 0), BAD);
        due("hope(1, 2)", x.hope(1, 2), BAD);
        due("hope(1, -1)", x.hope(1, -1), BAD);
        x.set(3, 99);
        due("hope(99, 0)", x.hope(99, 0), 9801);
        due("hope(99, 1)", x.hope(99, 1), 100);
        x.set(3, 0);
        due("hope(99, 0)", x.hope(99, 0), 0);
        due("hope(99, 1)", x.hope(99, 1), 1);
    }

    // ---- 30 to 34

    private static TravelMarks proving() {
        return told("mark on 0 ink 3; mark on 2 ink 9; touch 0:0 with 1; touch 1:2 with 3; touch 2:1 with 2;");
    }

    private static void prove() {
        TravelMarks x = proving();
        due("prove(0, 0)", x.prove(0, 0), BAD);
        due("prove(0, 11)", x.prove(0, 11), BAD);
        due("prove(2, 1)", x.prove(2, 1), BAD);
        due("prove(-1, 1)", x.prove(-1, 1), BAD);
        due("many(4)", x.many(4), 0);
        due("prove(0, 10)", x.prove(0, 10), 10);
        dueRow(x, 0, 1, 2, 1);
        dueRow(x, 1, 1, 2, 0);
        dueRow(x, 2, 2, 1, 1);
        dueRow(x, 3, 2, 1, 0);
        dueRow(x, 6, 2, 1, 0);
        dueRow(x, 7, 3, 0, 1);
        dueRow(x, 9, 3, 0, 0);
        dueMark(x, 0, MARK, 3, 0);
        due("prove(1, 0)", x.prove(1, 0), BAD);
        due("many(4)", x.many(4), 10);
        due("prove(1, 2)", x.prove(1, 2), 2);
        due("many(4)", x.many(4), 2);
        dueRow(x, 0, 2, 9, 0);
        dueRow(x, 1, 3, 8, 1);
        dueRow(x, 2, -9, -9, -9);
        x.hours(1);
        x.prove(1, 1);
        dueRow(x, 0, 3, 8, 1);
    }

    private static void row() {
        TravelMarks x = proving();
        due("row(0, 0)", x.row(0, 0), -9);
        x.prove(0, 2);
        dueRow(x, 1, 1, 2, 0);
        due("row(0, 3)", x.row(0, 3), -9);
        due("row(0, -1)", x.row(0, -1), -9);
        due("row(2, 0)", x.row(2, 0), -9);
        due("row(-1, 0)", x.row(-1, 0), -9);
        due("row(least, most)", x.row(LEAST, MOST), -9);
        due("row(most, 0)", x.row(MOST, 0), -9);
    }

    private static void alterRow() {
        TravelMarks x = proving();
        due("alterRow(0, 0, 5)", x.alterRow(0, 0, 5), -9);
        x.prove(0, 2);
        due("alterRow(1, 1, least)", x.alterRow(1, 1, LEAST), 2);
        due("alterRow(1, 1, 7)", x.alterRow(1, 1, 7), LEAST);
        due("alterRow(0, 2, -3)", x.alterRow(0, 2, -3), 1);
        due("alterRow(0, 0, 44)", x.alterRow(0, 0, 44), 1);
        due("alterRow(0, 3, 5)", x.alterRow(0, 3, 5), -9);
        due("alterRow(0, -1, 5)", x.alterRow(0, -1, 5), -9);
        due("alterRow(2, 0, 5)", x.alterRow(2, 0, 5), -9);
        due("alterRow(-1, 2, 5)", x.alterRow(-1, 2, 5), -9);
        dueRow(x, 0, 44, 2, -3);
        dueRow(x, 1, 1, 7, 0);
        x.prove(0, 3);
        dueRow(x, 0, 1, 2, 1);
        dueRow(x, 2, 2, 1, 1);
    }

    private static void judge() {
        TravelMarks x = proving();
        due("judge(0) of none", x.judge(0), 0);
        due("judge(2)", x.judge(2), BAD);
        due("judge(-1)", x.judge(-1), BAD);
        x.prove(0, 10);
        due("judge(0)", x.judge(0), 0);
        due("judge(1)", x.judge(1), 1);
        for (int i = 9; i >= 0; i--) {
            for (int what = 0; what < 3; what++) {
                int was = x.alterRow(i, what, 5);
                due("judge(0)", x.judge(0), i + 1);
                x.alterRow(i, what, was);
                due("judge(0)", x.judge(0), 0);
            }
        }
        x.alterRow(9, 1, 50);
        due("judge(0)", x.judge(0), 10);
        x.alterRow(2, 2, 0);
        due("judge(0)", x.judge(0), 3);
        due("judge(2)", x.judge(2), BAD);
        x.prove(0, 3);
        due("judge(0)", x.judge(0), 0);
        x.hours(1);
        due("judge(0) an HOUR later", x.judge(0), 1);
        due("many(4)", x.many(4), 3);
        due("state(0)", x.state(0), 1);
    }

    private static void minds() {
        TravelMarks x = told("mark on 0;mark on 1;mark on 2;mark on 3;mark on 4;mark on 5;mark on 6;mark on 7;");
        sheetOf(x, 0, 0, 1, 100, -1, 127, 99, 0, 50, 7, 8, -128);
        due("minds(0, 0, 0, 8)", x.minds(0, 0, 0, 8), 8);
        int[] inks = {1, 99, 0, 99, 99, 0, 50, 7};
        for (int i = 0; i < 8; i++) {
            dueMark(x, i, MARK, inks[i], i);
        }
        due("minds(0, 7, 5, 3)", x.minds(0, 7, 5, 3), 3);
        due("of(4, 1)", x.of(4, 1), 99);
        due("of(5, 1)", x.of(5, 1), 7);
        due("of(6, 1)", x.of(6, 1), 8);
        due("of(7, 1)", x.of(7, 1), 0);
        due("minds(0, 10, 7, 0)", x.minds(0, 10, 7, 0), 0);
        due("minds(0, 11, 7, 0)", x.minds(0, 11, 7, 0), -12);
        due("minds(0, -1, 7, 0)", x.minds(0, -1, 7, 0), -12);
        due("minds(0, 8, 0, 3)", x.minds(0, 8, 0, 3), -12);
        due("minds(0, most, 0, 3)", x.minds(0, MOST, 0, 3), -12);
        due("minds(0, least, 0, 3)", x.minds(0, LEAST, 0, 3), -12);
        x.sheet(1, 1, 10);
        due("minds of shorts", x.minds(1, 0, 0, 1), -13);
        due("minds of shorts from a place outside", x.minds(1, 11, 0, 1), -13);
        due("minds of shorts, none", x.minds(1, 0, 0, 0), -13);
        due("minds of a missing SHEET", x.minds(2, -1, 0, 1), -11);
        due("minds of a missing SHEET, none", x.minds(2, 0, 0, 0), -11);
        int[][] bad = {{4, 0, 0, 1}, {-1, 0, 0, 1}, {2, 0, 8, 0}, {2, 0, -1, 0}, {2, 0, 0, -1}, {2, 0, 0, 9},
            {2, 0, 1, 8}, {2, 0, 7, 2}, {0, 0, 7, 2}, {0, 0, MOST, MOST}};
        for (int[] b : bad) {
            due("minds of what is not as told", x.minds(b[0], b[1], b[2], b[3]), BAD);
        }
        for (int i = 0; i < 5; i++) {
            due("of(" + i + ", 1)", x.of(i, 1), inks[i]);
        }
        x = told("mark on 3;");
        x.sheet(0, 0, 3);
        due("minds beyond the last one", x.minds(0, 0, 0, 2), BAD);
        due("minds(0, 0, 0, 1)", x.minds(0, 0, 0, 1), 1);
        due("of(0, 1)", x.of(0, 1), 0);
    }

    // ---- 35 to 41

    private static void sheet() {
        TravelMarks x = new TravelMarks();
        due("sheet(4, 0, 1)", x.sheet(4, 0, 1), BAD);
        due("sheet(-1, 0, -1)", x.sheet(-1, 0, -1), BAD);
        due("sheet(0, 4, -1)", x.sheet(0, 4, -1), BAD);
        due("sheet(0, -2, -1)", x.sheet(0, -2, -1), BAD);
        due("sheet(0, 0, 41)", x.sheet(0, 0, 41), BAD);
        due("sheet(0, 3, most)", x.sheet(0, 3, MOST), BAD);
        due("sheet(0, 0, -1)", x.sheet(0, 0, -1), -14);
        due("sheet(0, 3, least)", x.sheet(0, 3, LEAST), -14);
        due("item of a missing one", x.item(0, 0, 0), -11);
        for (int sort = 0; sort < 4; sort++) {
            due("sheet(" + sort + ", sort, 40)", x.sheet(sort, sort, 40), 1);
            due("item 39", x.item(sort, sort, 39), 0);
            due("item 40", x.item(sort, sort, 40), -12);
            due("put 39", x.put(sort, 39, 5), 1);
        }
        due("sheet of n above 40", x.sheet(1, 1, 41), BAD);
        due("sheet of a size below 0", x.sheet(1, 1, -1), -14);
        due("item of the one before", x.item(1, 1, 39), 5);
        due("put 0", x.put(1, 0, 6), 1);
        due("sheet(1, 1, 40) once more", x.sheet(1, 1, 40), 1);
        due("item(1, 1, 0)", x.item(1, 1, 0), 0);
        due("item(1, 1, 39)", x.item(1, 1, 39), 0);
        due("sheet(2, -1, 99)", x.sheet(2, -1, 99), 1);
        due("item of a missing one", x.item(2, 2, 0), -11);
        due("sheet(3, -1, -99)", x.sheet(3, -1, -99), 1);
        due("put of a missing one", x.put(3, 0, 0), -11);
        due("sheet(0, 0, 0)", x.sheet(0, 0, 0), 1);
        due("item of a row of none", x.item(0, 0, 0), -12);
    }

    private static void put() {
        TravelMarks x = new TravelMarks();
        int v = 0x12345678;
        int[] narrowed = {0x78, 0x5678, v, v};
        for (int sort = 0; sort < 4; sort++) {
            x.sheet(sort, sort, 3);
            due("put", x.put(sort, 0, v), 1);
            due("put", x.put(sort, 2, -1), 1);
            due("item", x.item(sort, sort, 0), narrowed[sort]);
            due("item", x.item(sort, sort, 1), 0);
            due("item", x.item(sort, sort, 2), -1);
            due("put", x.put(sort, 3, v), -12);
            due("put", x.put(sort, -1, v), -12);
        }
        x.put(0, 1, 200);
        due("item(0, 0, 1)", x.item(0, 0, 1), -56);
        x.put(1, 1, 40000);
        due("item(1, 1, 1)", x.item(1, 1, 1), -25536);
        x.put(2, 1, LEAST);
        due("item(2, 2, 1)", x.item(2, 2, 1), LEAST);
        due("put(4, 0, 0)", x.put(4, 0, 0), BAD);
        due("put(-1, 9, 0)", x.put(-1, 9, 0), BAD);
        x.sheet(0, -1, 0);
        due("put(0, -1, 0)", x.put(0, -1, 0), -11);
    }

    private static void item() {
        TravelMarks x = new TravelMarks();
        x.sheet(3, 3, 2);
        x.put(3, 0, LEAST);
        x.put(3, 1, -11);
        due("item(3, 3, 0)", x.item(3, 3, 0), LEAST);
        due("item(3, 3, 1)", x.item(3, 3, 1), -11);
        due("item(3, 3, 2)", x.item(3, 3, 2), -12);
        due("item(3, 3, -1)", x.item(3, 3, -1), -12);
        due("item(3, 2, 2)", x.item(3, 2, 2), -13);
        due("item(3, 0, 0)", x.item(3, 0, 0), -13);
        due("item(2, 2, -1)", x.item(2, 2, -1), -11);
        due("item(2, 4, 0)", x.item(2, 4, 0), BAD);
        due("item(2, -1, 0)", x.item(2, -1, 0), BAD);
        due("item(4, 0, 0)", x.item(4, 0, 0), BAD);
        due("item(-1, 0, 0)", x.item(-1, 0, 0), BAD);
    }

    private static void shelf() {
        TravelMarks x = told("ship on 1; mark on 2;");
        x.sheet(0, 2, 5);
        due("shelf(0, 0, 1)", x.shelf(0, 0, 1), 1);
        due("taken(0, 0)", x.taken(0, 0), 1);
        due("shelf(3, 1, 0)", x.shelf(3, 1, 0), 1);
        due("taken(3, 12)", x.taken(3, 12), 5);
        int[][] bad = {{4, 2, 0}, {-1, 2, 0}, {0, 3, 0}, {0, -1, 0}, {0, 0, 2}, {0, 0, -1}, {0, 1, 4}, {0, 1, -1}};
        for (int[] b : bad) {
            due("shelf of what is not as told", x.shelf(b[0], b[1], b[2]), BAD);
        }
        due("taken(0, 0)", x.taken(0, 0), 1);
        due("shelf(0, 2, most)", x.shelf(0, 2, MOST), 1);
        due("taken(0, 0)", x.taken(0, 0), -11);
        due("shelf of a missing SHEET", x.shelf(3, 1, 1), 1);
        due("taken(3, 12)", x.taken(3, 12), -11);
        // It holds the row itself: what the SHEET becomes later is another one.
        x.shelf(1, 1, 0);
        x.sheet(0, 0, 7);
        due("taken(1, 12)", x.taken(1, 12), 5);
        x.shelf(2, 1, 0);
        x.sheet(0, -1, 0);
        due("taken(2, 10)", x.taken(2, 10), 7);
        // It holds one of the MARKS by its number.
        x.shelf(0, 0, 1);
        x.mind(1, SNAKE, 5);
        due("taken(0, 2)", x.taken(0, 2), 1);
        ported(x, "mark on 1;");
        due("taken of none at the time", x.taken(0, 0), -11);
        due("act of none at the time", x.act(0, 0, 5), 0);
        x.mark(DRAGON, 1, 1);
        due("taken of the next one", x.taken(0, 4), 1);
    }

    private static void taken() {
        TravelMarks x = told("mark on 1; ship on 1; snake on 1; anchor on 1; dragon on 1; name on 1;");
        int[] taken = {0b000001, 0b000011, 0b000101, 0b001011, 0b010101, 0b100001};
        for (int kind = 0; kind < 6; kind++) {
            x.shelf(0, 0, kind);
            for (int as = 0; as < 6; as++) {
                due("taken(0, " + as + ") of " + kind, x.taken(0, as), (taken[kind] >> as & 1) != 0 ? kind : -13);
            }
            for (int as = 10; as < 14; as++) {
                due("taken(0, " + as + ") of " + kind, x.taken(0, as), -13);
            }
        }
        for (int sort = 0; sort < 4; sort++) {
            x.sheet(0, sort, 20 * (sort % 3));
            x.shelf(1, 1, 0);
            for (int as = 10; as < 14; as++) {
                due("taken(1, " + as + ") of " + sort, x.taken(1, as), as - 10 == sort ? 20 * (sort % 3) : -13);
            }
            due("taken(1, 0) of a row", x.taken(1, 0), -13);
        }
        int[] bad = {-1, 6, 7, 8, 9, 14, LEAST, MOST};
        for (int as : bad) {
            due("taken(2, " + as + ")", x.taken(2, as), BAD);
            due("taken(0, " + as + ")", x.taken(0, as), BAD);
        }
        due("taken(4, 0)", x.taken(4, 0), BAD);
        due("taken(-1, 0)", x.taken(-1, 0), BAD);
        due("taken(2, 0)", x.taken(2, 0), -11);
        due("taken(2, 13)", x.taken(2, 13), -11);
    }

    private static TravelMarks acting(int mark) {
        TravelMarks x = told("mark on 3; ship on 4; snake on 5; anchor on 7; dragon on 6; name on 7;");
        x.shelf(0, 0, mark);
        return x;
    }

    private static void act() {
        TravelMarks x = acting(0);
        dueAct(x, 0, 5, 15, 10);
        dueAct(x, 1, 5, 12, 11, 10);
        dueAct(x, 2, 7, 2, 12);
        dueAct(x, 2, -7, -2, 12);
        dueAct(x, 3, 5, 116, 13, 11, 10);
        dueAct(x, 0, 1 << 30, -(1 << 30), 10);
        x = acting(1);
        dueAct(x, 0, 5, 17, 10);
        dueAct(x, 1, 5, 52, 20, 11, 10);
        dueAct(x, 2, 7, 2, 12);
        dueAct(x, 3, 5, 76, 13, 20, 11, 10);
        x = acting(2);
        dueAct(x, 0, 5, -19, 30, 10);
        dueAct(x, 1, 5, -24, 11, 30, 10);
        dueAct(x, 2, 7, 2, 12);
        dueAct(x, 3, 5, -112, 31, 13, 11, 30, 10, 12);
        x = acting(3);
        dueAct(x, 0, 5, 28, 51, 10);
        dueAct(x, 1, 5, 84, 20, 11, 51, 10);
        dueAct(x, 2, 5, -1, 50, 12);
        dueAct(x, 3, 5, 44, 13, 20, 11, 51, 10);
        x = acting(4);
        dueAct(x, 0, 5, -32, 40, 30, 10);
        dueAct(x, 1, 5, -55, 41, 11, 40, 30, 10, 40, 30, 10);
        dueAct(x, 2, 5, 2, 12);
        dueAct(x, 3, 5, -77, 31, 13, 41, 11, 40, 30, 10, 40, 30, 10, 12);
        x = acting(5);
        dueAct(x, 0, 5, 25, 10);
        dueAct(x, 1, 5, 18, 11, 10);
        dueAct(x, 2, 5, -23, 61, 12, 10);
        dueAct(x, 3, 5, -99, 60, 13, 11, 10);
        partedBy0();
        noAct();
    }

    /** -15 is all that is answered, and no body begins behind the one that parts by 0. */
    private static void partedBy0() {
        for (int mark = 0; mark < 6; mark++) {
            TravelMarks x = acting(mark);
            x.move(mark, mark);
            int[][] began = {{12}, {12}, {12}, {50, 12}, {12}, {61, 12}};
            dueAct(x, 2, 100, -15, began[mark]);
        }
        TravelMarks x = acting(2);
        x.move(2, 2);
        dueAct(x, 3, 5, -15, 31, 13, 11, 30, 10, 12);
        x = acting(0);
        x.move(0, 1);
        dueAct(x, 2, LEAST, LEAST, 12);
        x = acting(1);
        x.move(1, 0);
        dueAct(x, 2, LEAST, LEAST, 12);
    }

    private static void noAct() {
        TravelMarks x = acting(2);
        x.sheet(0, 0, 4);
        x.shelf(1, 1, 0);
        int[][] none = {{4, 0}, {-1, 0}, {0, 4}, {0, -1}, {1, 0}, {2, 0}, {MOST, LEAST}};
        for (int[] n : none) {
            dueAct(x, 3, 5, -112, 31, 13, 11, 30, 10, 12);
            due("act(" + n[0] + ", " + n[1] + ", 5)", x.act(n[0], n[1], 5), 0);
            dueTrace(x);
        }
        dueMark(x, 2, SNAKE, 9, 5);
    }

    private static void trace() {
        TravelMarks x = acting(4);
        due("trace(0)", x.trace(0), NONE);
        x.act(0, 1, 5);
        dueTrace(x, 41, 11, 40, 30, 10, 40, 30, 10);
        due("trace(-1)", x.trace(-1), NONE);
        due("trace(30)", x.trace(30), NONE);
        due("trace(least)", x.trace(LEAST), NONE);
        due("trace(most)", x.trace(MOST), NONE);
        x.act(0, 2, 5);
        dueTrace(x, 12);
        due("trace(1)", x.trace(1), NONE);
    }

    // ---- 42 to 44

    private static void many() {
        TravelMarks x = told("mark on 3 ink 0; ship on 3 ink 1; name on 5 ink 99; touch 0:1 with 2; touch 4:6 with 7;");
        due("many(0)", x.many(0), 3);
        due("many(1)", x.many(1), 2);
        due("many(2)", x.many(2), 2);
        due("many(3)", x.many(3), 2);
        due("many(4)", x.many(4), 0);
        x.prove(1, 7);
        due("many(4)", x.many(4), 7);
        due("many(5)", x.many(5), 0);
        x.feed(0, 8);
        x.feed(0, 3);
        due("many(5)", x.many(5), 11);
        due("many(6)", x.many(6), 0);
        x.shelf(0, 0, 1);
        x.act(0, 3, 1);
        due("many(6)", x.many(6), 4);
        due("many(7)", x.many(7), BAD);
        due("many(-1)", x.many(-1), BAD);
        due("many(least)", x.many(LEAST), BAD);
    }

    private static TravelMarks keeping() {
        TravelMarks x = told("mark on 3 ink 7; ship on 4 ink 8; touch 0:1 with 2; touch 4:6 with 7; load 2; fade 3; tide 4; chance 5;");
        x.hours(3);
        x.seed(-99);
        due("keep()", x.keep(), 1);
        return x;
    }

    private static void dueKept(TravelMarks x) {
        due("many(0)", x.many(0), 2);
        dueMark(x, 0, MARK, 7, 3);
        dueMark(x, 1, SHIP, 8, 4);
        due("touchOf(0, 0)", x.touchOf(0, 0), 1);
        due("touchOf(0, 1)", x.touchOf(0, 1), 2);
        due("touchOf(4, 0)", x.touchOf(4, 0), 6);
        due("touchOf(5, 0)", x.touchOf(5, 0), NONE);
        for (int law = 0; law < 4; law++) {
            due("lawOf(" + law + ")", x.lawOf(law), law + 2);
        }
        due("state(0)", x.state(0), 3);
        due("seed(0)", x.seed(0), -99);
    }

    private static void spoil(TravelMarks x) {
        x.mind(0, DRAGON, 1);
        x.move(1, 0);
        x.mark(NAME, 5, 5);
        x.touch(5, 0, 1);
        x.touch(0, 3, 1);
        x.part(4);
        for (int law = 0; law < 4; law++) {
            x.set(law, 1);
        }
        x.hours(60);
        x.hour();
    }

    private static void keep() {
        TravelMarks x = keeping();
        dueKept(x);
        x.seed(-99);
        spoil(x);
        x.keep();
        due("again() of the latest one", x.again(), 3);
        due("state(0)", x.state(0), 64);
        due("lawOf(0)", x.lawOf(0), 1);
    }

    private static void again() {
        due("again() of nothing", new TravelMarks().again(), NONE);
        TravelMarks x = told("mark on 1;");
        due("again() of nothing", x.again(), NONE);
        due("many(0)", x.many(0), 1);
        x = keeping();
        for (int i = 0; i < 3; i++) {
            spoil(x);
            due("again()", x.again(), 2);
            dueKept(x);
        }
        ported(x, "load 7;");
        due("again() behind port()", x.again(), 2);
        dueKept(x);
        // What is not kept stays as it is.
        x = keeping();
        x.feed(0, 5);
        x.prove(0, 6);
        sheetOf(x, 2, 1, 5, 6, 7);
        x.shelf(0, 0, 1);
        x.shelf(1, 1, 2);
        x.act(0, 1, 1);
        due("again()", x.again(), 2);
        due("many(5)", x.many(5), 5);
        due("many(4)", x.many(4), 6);
        dueRow(x, 5, 3, 7, 0);
        due("item(2, 1, 2)", x.item(2, 1, 2), 7);
        due("taken(0, 1)", x.taken(0, 1), 1);
        due("taken(1, 11)", x.taken(1, 11), 3);
        dueTrace(x, 20, 11, 10);
    }

    private static void first22() {
        promise = 1; newObject();
        promise = 2; feed();
        promise = 3; port();
        promise = 4; set();
        promise = 5; lawOf();
        promise = 6; mark();
        promise = 7; of();
        promise = 8; mind();
        promise = 9; move();
        promise = 10; touch();
        promise = 11; part();
        promise = 12; touchOf();
        promise = 13; who();
        promise = 14; hours(); hoursTogether();
        promise = 15; seed();
        promise = 16; hour();
        promise = 17; stir();
        promise = 18; state();
        promise = 19; where();
        promise = 20; comes();
        promise = 21; bare();
        promise = 22; dry();
    }

    private static void last22() {
        promise = 23; kindFor();
        promise = 24; inkFor();
        promise = 25; touchFor();
        promise = 26; apartFor();
        promise = 27; fits();
        promise = 28; odds();
        promise = 29; hope();
        promise = 30; prove();
        promise = 31; row();
        promise = 32; alterRow();
        promise = 33; judge();
        promise = 34; minds();
        promise = 35; sheet();
        promise = 36; put();
        promise = 37; item();
        promise = 38; shelf();
        promise = 39; taken();
        promise = 40; act();
        promise = 41; trace();
        promise = 42; many();
        promise = 43; keep();
        promise = 44; again();
    }

    public static void main(String[] args) {
        first22();
        last22();
        finish("all promises hold");
    }
}
