/** The sentences that name a boundary, of the port itself: Terms 1, promises 1 and 4 to 14, and 18. */
final class PortBounds extends Checks {

    static void run() {
        laws();
        people();
        marks();
        goesByInk();
        goesByRoom();
        goesByNumber();
        goesByNames();
        fades();
        hourOfTwo();
        hourOfInk();
        newObject();
        lawCalls();
        markCalls();
        ofCall();
        mindAndMove();
        touchCalls();
        whoCall();
        hoursCall();
        stateCall();
    }

    // ---- Terms 1

    private static void laws() {
        sentence(TERMS, "0 LOAD (1 to 8; 3 at first)");
        dueLaw(0, 1, 8, 3);
        sentence(TERMS, "1 FADE (0 to 9; 1)");
        dueLaw(1, 0, 9, 1);
        sentence(TERMS, "2 TIDE (0 to 9; 5)");
        dueLaw(2, 0, 9, 5);
        sentence(TERMS, "3 CHANCE (0 to 99 of a hundred; 20)");
        dueLaw(3, 0, 99, 20);
        sentence(TERMS, "HOUR (0 at first)");
        due(new TravelMarks().state(0), 0);
    }

    private static void dueLaw(int law, int least, int most, int first) {
        TravelMarks x = new TravelMarks();
        due(x.lawOf(law), first);
        due(x.set(law, least - 1), BAD);
        due(x.set(law, most + 1), BAD);
        due(x.lawOf(law), first);
        due(x.set(law, least), first);
        due(x.lawOf(law), least);
        due(x.set(law, most), least);
        due(x.lawOf(law), most);
    }

    private static void people() {
        sentence(TERMS, "PEOPLE 0 to 7");
        TravelMarks x = new TravelMarks();
        due(x.mark(MARK, 5, 0), 0);
        due(x.mark(MARK, 5, 7), 1);
        dueAll(BAD, x.mark(MARK, 5, -1), x.mark(MARK, 5, 8));
        due(x.who(0, 0), 1);
        due(x.who(7, 0), 2);
        dueAll(BAD, x.who(-1, 0), x.who(8, 0));

        sentence(TERMS, "in HOURS whose rest by 6 is 0, 1, .. 5 two people touch");
        for (int rest = 0; rest < 6; rest++) {
            dueTouchOnceInSix(rest);
        }
        dueAll(BAD, x.touch(-1, 0, 1), x.touch(6, 0, 1));

        sentence(TERMS, "unlike ones (or nobody, as at first)");
        for (int one = 0; one < 8; one++) {
            due(x.touch(0, one, one), BAD);
        }
        for (int rest = 0; rest < 6; rest++) {
            due(x.touchOf(rest, 0), NONE);
        }
        x.hours(60);
        dueMark(x, 0, MARK, 5, 0);
        dueMark(x, 1, MARK, 5, 7);
    }

    /** A name goes to and fro without fading. */
    private static void dueTouchOnceInSix(int rest) {
        TravelMarks x = new TravelMarks();
        x.mark(NAME, 1, 0);
        x.touch(rest, 0, 1);
        int on = 0;
        for (int hour = 0; hour < 20; hour++) {
            x.hours(1);
            on = hour % 6 == rest ? 1 - on : on;
            due(x.of(0, 2), on);
        }
    }

    private static void marks() {
        sentence(TERMS, "MARKS, 8 at most, numbered as they come");
        TravelMarks x = new TravelMarks();
        for (int i = 0; i < 8; i++) {
            due(x.many(0), i);
            due(x.mark(MARK, i, 7 - i), i);
            dueMark(x, i, MARK, i, 7 - i);
        }
        due(x.mark(MARK, 0, 0), FULL);
        due(x.many(0), 8);
        due(x.of(8, 0), BAD);

        sentence(TERMS, "0 mark; 1 ship, 2 snake, 5 name (under mark); 3 anchor (under ship); 4 dragon (under snake)");
        int[] above = {-1, MARK, MARK, SHIP, SNAKE, MARK};
        for (int kind = 0; kind < 6; kind++) {
            x = told(KINDS[kind] + " on 0;");
            x.shelf(0, 0, 0);
            due(x.of(0, 0), kind);
            for (int as = 0; as < 6; as++) {
                boolean under = as == kind || as == above[kind] || as == MARK;
                due(x.taken(0, as), under ? 0 : OTHER_SORT);
            }
        }
        dueAll(BAD, x.mark(-1, 0, 0), x.mark(6, 0, 0));

        sentence(TERMS, "with INK (0 to 99), ON one of PEOPLE");
        x = new TravelMarks();
        dueAll(BAD, x.mark(MARK, -1, 0), x.mark(MARK, 100, 0));
        due(x.mark(MARK, 0, 0), 0);
        due(x.mark(MARK, 99, 7), 1);
        dueMark(x, 0, MARK, 0, 0);
        dueMark(x, 1, MARK, 99, 7);
    }

    /** One ON one that touches another one in HOUR 0. */
    private static TravelMarks touching(int kind, int ink, int from, int to) {
        TravelMarks x = new TravelMarks();
        x.mark(kind, ink, from);
        x.touch(0, from, to);
        return x;
    }

    private static int goes(int kind, int ink, int from, int to) {
        return touching(kind, ink, from, to).of(0, 4);
    }

    private static void more(TravelMarks x, int many, int kind, int ink, int who) {
        for (int i = 0; i < many; i++) {
            x.mark(kind, ink, who);
        }
    }

    private static void goesByInk() {
        sentence(TERMS, "GOES (over by a touch, from the one ON whom it is to the other one)");
        due(told("mark on 1; touch 0:1 with 2;").of(0, 4), 1);
        due(told("mark on 1; touch 0:2 with 1;").of(0, 4), 1);
        due(told("mark on 3; touch 0:2 with 1;").of(0, 4), 0);

        sentence(TERMS, "mark: if INK is above 0");
        due(goes(MARK, 0, 1, 2), 0);
        due(goes(MARK, 1, 1, 2), 1);
        due(goes(MARK, 99, 1, 2), 1);
    }

    private static void goesByRoom() {
        sentence(TERMS, "ship: as mark; and if ON that one fewer MARKS are than LOAD tells");
        dueGoesByRoom(SHIP);

        sentence(TERMS, "anchor: as ship, in even HOURS alone");
        dueGoesByRoom(ANCHOR);
        TravelMarks x = new TravelMarks();
        x.mark(ANCHOR, 1, 0);
        for (int hour = 0; hour < 14; hour++) {
            x.touch(hour % 6, 0, 1);
            due(x.of(0, 4), hour % 2 == 0 ? 1 : 0);
            x.part(hour % 6);
            x.hours(1);
        }
    }

    private static void dueGoesByRoom(int kind) {
        due(goes(kind, 0, 1, 2), 0);
        due(goes(kind, 1, 1, 2), 1);
        for (int load = 1; load <= 8; load++) {
            for (int there = 0; there <= 7; there++) {
                TravelMarks x = touching(kind, 1, 1, 2);
                x.set(0, load);
                more(x, there, NAME, 0, 2);
                due(x.of(0, 4), there < load ? 1 : 0);
            }
        }
        // Those ON its own one and ON a third one take no room.
        TravelMarks x = touching(kind, 1, 1, 2);
        x.set(0, 1);
        more(x, 4, MARK, 9, 1);
        more(x, 3, MARK, 9, 3);
        due(x.of(0, 4), 1);
    }

    private static void goesByNumber() {
        sentence(TERMS, "snake: as mark; and if the number of that one is greater");
        for (int from = 0; from < 8; from++) {
            for (int to = 0; to < 8; to++) {
                if (from != to) {
                    due(goes(SNAKE, 99, from, to), to > from ? 1 : 0);
                    due(goes(SNAKE, 0, from, to), 0);
                }
            }
        }
        due(goes(SNAKE, 1, 6, 7), 1);

        sentence(TERMS, "dragon: as snake; or if INK is TIDE or more");
        for (int tide = 0; tide <= 9; tide++) {
            for (int ink = 0; ink <= tide + 1; ink++) {
                TravelMarks x = touching(DRAGON, ink, 7, 6);
                x.set(2, tide);
                due(x.of(0, 4), ink >= tide ? 1 : 0);
                x = touching(DRAGON, ink, 6, 7);
                x.set(2, tide);
                due(x.of(0, 4), ink > 0 || tide == 0 ? 1 : 0);
            }
        }
    }

    private static void goesByNames() {
        sentence(TERMS, "name: as mark; and if no name is ON that one");
        due(goes(NAME, 0, 1, 2), 0);
        due(goes(NAME, 1, 1, 2), 1);
        due(goes(NAME, 1, 2, 1), 1);
        for (int kind = 0; kind < 6; kind++) {
            TravelMarks x = touching(NAME, 1, 1, 2);
            x.mark(kind, 0, 2);
            due(x.of(0, 4), kind == NAME ? 0 : 1);
        }
        // Names ON its own one and ON a third one are nothing to it.
        TravelMarks x = touching(NAME, 1, 1, 2);
        more(x, 4, NAME, 9, 1);
        more(x, 3, NAME, 9, 3);
        due(x.of(0, 4), 1);
    }

    private static void fades() {
        String[] told = {"mark: FADE.", "ship: as mark, and 1.", "snake: as mark, less 2 (so it may be below 0).",
            "anchor: as ship, twice that.", "dragon: as snake, less TIDE.", "name: 0."};
        for (int kind = 0; kind < 6; kind++) {
            sentence(TERMS, told[kind]);
            TravelMarks x = touching(kind, 50, 0, 1);
            for (int fade = 0; fade <= 9; fade++) {
                for (int tide = 0; tide <= 9; tide += 3) {
                    x.set(1, fade);
                    x.set(2, tide);
                    due(x.of(0, 3), 1000 + faded(kind, fade, tide));
                }
            }
            x.set(1, 0);
            x.hours(1);
            due(x.of(0, 1), 50 - faded(kind, 0, 9));
        }
    }

    private static int faded(int kind, int fade, int tide) {
        int[] faded = {fade, fade + 1, fade - 2, 2 * fade + 2, fade - 2 - tide, 0};
        return faded[kind];
    }

    private static void hourOfTwo() {
        sentence(TERMS, "AN HOUR: if two touch:");
        TravelMarks x = told("mark on 1; ship on 2; touch 1:1 with 2;");
        due(x.hours(1), 2);
        dueMark(x, 0, MARK, 9, 1);
        dueMark(x, 1, SHIP, 9, 2);
        due(x.state(0), 1);

        sentence(TERMS, "each MARK that is ON one of them goes over to the other one");
        x = told("mark on 1; mark on 2; mark on 1; mark on 2; mark on 0; mark on 3; mark on 2; mark on 1; touch 0:2 with 1;");
        x.hours(1);
        due(x.who(1, 0), 0b01001010);
        due(x.who(2, 0), 0b10000101);
        due(x.who(0, 0), 0b00010000);
        due(x.who(3, 0), 0b00100000);

        sentence(TERMS, "if it GOES, by all as the HOUR begins");
        // Ships look for room that is there as it begins: both find it, or none does though a mark makes room.
        x = told("ship on 1; ship on 1; mark on 2; touch 0:1 with 2; load 2;");
        x.hours(1);
        due(x.who(2, 0), 0b011);
        x = told("mark on 2; mark on 1; ship on 1; touch 0:1 with 2; load 1;");
        x.hours(1);
        due(x.who(2, 0), 0b010);
        due(x.who(1, 0), 0b101);
        // Two names find none there, and go both; one ON each: none goes.
        x = told("name on 1; name on 1; touch 0:1 with 2;");
        x.hours(1);
        due(x.who(2, 0), 0b11);
        x = told("name on 1; name on 2; touch 0:1 with 2;");
        x.hours(1);
        dueMark(x, 0, NAME, 9, 1);
        dueMark(x, 1, NAME, 9, 2);

        sentence(TERMS, "HOUR is 1 more.");
        x = new TravelMarks();
        x.hours(1);
        due(x.state(0), 1);
        for (int i = 0; i < 500; i++) {
            x.hours(60);
        }
        due(x.state(0), 30001);
    }

    private static void hourOfInk() {
        sentence(TERMS, "INK of each that went over is what it FADES less (held to 0 to 99)");
        dueInk(MARK, 8, 9, 0, 0);
        dueInk(MARK, 9, 9, 0, 0);
        dueInk(MARK, 10, 9, 0, 1);
        dueInk(MARK, 99, 0, 0, 99);
        dueInk(ANCHOR, 1, 9, 0, 0);
        dueInk(ANCHOR, 20, 9, 0, 0);
        dueInk(ANCHOR, 21, 9, 0, 1);
        dueInk(SNAKE, 96, 0, 0, 98);
        dueInk(SNAKE, 97, 0, 0, 99);
        dueInk(SNAKE, 98, 0, 0, 99);
        dueInk(SNAKE, 99, 0, 0, 99);
        dueInk(DRAGON, 87, 0, 9, 98);
        dueInk(DRAGON, 88, 0, 9, 99);
        dueInk(DRAGON, 99, 0, 9, 99);
        dueInk(DRAGON, 0, 9, 0, 0);
        // Those that don't go keep it.
        TravelMarks x = told("snake on 2 ink 5; mark on 3 ink 5; mark on 1 ink 0; touch 0:1 with 2;");
        x.hours(1);
        dueMark(x, 0, SNAKE, 5, 2);
        dueMark(x, 1, MARK, 5, 3);
        dueMark(x, 2, MARK, 0, 1);
    }

    private static void dueInk(int kind, int ink, int fade, int tide, int then) {
        TravelMarks x = touching(kind, ink, 1, 2);
        x.set(1, fade);
        x.set(2, tide);
        x.hours(1);
        dueMark(x, 0, kind, then, 2);
    }

    // ---- promises 1 and 4 to 6

    private static void newObject() {
        keepingAll();
        TravelMarks x = new TravelMarks();
        sentence(1, "No MARKS");
        due(x.many(0), 0);
        due(x.of(0, 0), BAD);
        due(x.state(2), 0);
        due(x.dry(), 0);
        sentence(1, "nobody touches");
        due(x.many(3), 0);
        due(x.state(3), 8);
        for (int rest = 0; rest < 6; rest++) {
            dueAll(NONE, x.touchOf(rest, 0), x.touchOf(rest, 1));
        }
        sentence(1, "nothing is kept");
        due(x.again(), NONE);
    }

    /** An object before it, that keeps all it can: the next one has nothing of it. */
    private static void keepingAll() {
        TravelMarks x = told("mark on 1; touch 0:1 with 2;");
        x.keep();
    }

    private static void lawCalls() {
        sentence(4, "A LAW becomes v: what it was.");
        TravelMarks x = new TravelMarks();
        due(x.set(3, 99), 20);
        due(x.set(3, 99), 99);
        due(x.set(3, 0), 99);
        due(x.lawOf(3), 0);
        due(x.lawOf(2), 5);

        sentence(4, "BAD (LOAD 0, too).");
        due(x.set(0, 0), BAD);
        due(x.lawOf(0), 3);
        dueAll(BAD, x.set(-1, 1), x.set(4, 1), x.set(LEAST, 1), x.set(MOST, 1));
        for (int law = 0; law < 4; law++) {
            dueAll(BAD, x.set(law, LEAST), x.set(law, MOST), x.set(law, 100));
        }

        sentence(5, "A LAW. BAD.");
        due(x.lawOf(0), 3);
        due(x.lawOf(3), 0);
        dueAll(BAD, x.lawOf(-1), x.lawOf(4), x.lawOf(LEAST), x.lawOf(MOST));
    }

    private static void markCalls() {
        sentence(6, "One more ON one of PEOPLE: its number.");
        TravelMarks x = new TravelMarks();
        due(x.mark(NAME, 99, 7), 0);
        due(x.mark(MARK, 0, 0), 1);
        dueMark(x, 0, NAME, 99, 7);
        dueMark(x, 1, MARK, 0, 0);

        sentence(6, "BAD; FULL.");
        for (int round = 0; round < 2; round++) {
            dueAll(BAD, x.mark(-1, 0, 0), x.mark(6, 0, 0), x.mark(LEAST, 0, 0), x.mark(MOST, 0, 0));
            dueAll(BAD, x.mark(0, -1, 0), x.mark(0, 100, 0), x.mark(0, LEAST, 0), x.mark(0, MOST, 0));
            dueAll(BAD, x.mark(0, 0, -1), x.mark(0, 0, 8), x.mark(0, 0, LEAST), x.mark(0, 0, MOST));
            // The second round is asked when there is no room: BAD stands before FULL.
            more(x, 6, MARK, 0, 0);
            due(x.many(0), 8);
            due(x.mark(5, 99, 7), FULL);
        }
    }

    // ---- promises 7 to 14

    private static void ofCall() {
        sentence(7, "what = 0 KIND, 1 INK, 2 ON whom");
        TravelMarks x = new TravelMarks();
        x.mark(MARK, 0, 0);
        x.mark(NAME, 99, 7);
        dueMark(x, 0, MARK, 0, 0);
        dueMark(x, 1, NAME, 99, 7);

        sentence(7, "3 what it FADES, and 1000");
        x = told("dragon on 0; anchor on 0; name on 0; fade 0; tide 9;");
        due(x.of(0, 3), 989);
        due(x.of(2, 3), 1000);
        x.set(1, 9);
        due(x.of(1, 3), 1020);

        sentence(7, "4 1 if it GOES over to the other one by the touch of the HOUR that begins now, else 0");
        x = told("mark on 1; snake on 2; touch 0:1 with 2; touch 1:2 with 3;");
        due(x.of(0, 4), 1);
        due(x.of(1, 4), 0);
        x.hours(1);
        due(x.of(0, 4), 1);
        due(x.of(1, 4), 1);
        x.hours(1);
        dueAll(0, x.of(0, 4), x.of(1, 4));

        sentence(7, "(0, if it is ON neither)");
        x = told("mark on 0; mark on 3; mark on 7; touch 0:1 with 2;");
        dueAll(0, x.of(0, 4), x.of(1, 4), x.of(2, 4));

        sentence(7, "BAD.");
        dueAll(BAD, x.of(-1, 0), x.of(3, 0), x.of(8, 0), x.of(LEAST, 0), x.of(MOST, 0));
        dueAll(BAD, x.of(0, -1), x.of(0, 5), x.of(0, LEAST), x.of(0, MOST));
        due(new TravelMarks().of(0, 0), BAD);
    }

    private static void mindAndMove() {
        sentence(8, "One becomes one of another KIND, with another INK: the KIND that it was.");
        TravelMarks x = told("mark on 1; ship on 6 ink 7;");
        due(x.mind(1, NAME, 99), SHIP);
        dueMark(x, 1, NAME, 99, 6);
        due(x.mind(1, NAME, 0), NAME);
        dueMark(x, 1, NAME, 0, 6);
        due(x.mind(0, MARK, 0), MARK);
        dueMark(x, 0, MARK, 0, 1);

        sentence(8, "BAD.");
        dueAll(BAD, x.mind(-1, 0, 0), x.mind(2, 0, 0), x.mind(8, 0, 0), x.mind(LEAST, 0, 0), x.mind(MOST, 0, 0));
        dueAll(BAD, x.mind(0, -1, 0), x.mind(0, 6, 0), x.mind(0, LEAST, 0), x.mind(0, MOST, 0));
        dueAll(BAD, x.mind(0, 0, -1), x.mind(0, 0, 100), x.mind(0, 0, LEAST), x.mind(0, 0, MOST));

        sentence(9, "It is ON another one from now on: ON whom it was.");
        due(x.move(0, 7), 1);
        due(x.move(0, 7), 7);
        due(x.move(0, 0), 7);
        dueMark(x, 0, MARK, 0, 0);
        dueMark(x, 1, NAME, 0, 6);

        sentence(9, "BAD.");
        dueAll(BAD, x.move(-1, 0), x.move(2, 0), x.move(8, 0), x.move(LEAST, 0), x.move(MOST, 0));
        dueAll(BAD, x.move(0, -1), x.move(0, 8), x.move(0, LEAST), x.move(0, MOST));
    }

    private static void touchCalls() {
        sentence(10, "In HOURS whose rest by 6 is told these two touch: 1.");
        TravelMarks x = new TravelMarks();
        due(x.touch(0, 0, 7), 1);
        due(x.touch(5, 7, 0), 1);
        due(x.touch(5, 6, 1), 1);
        due(x.touchOf(5, 0), 6);
        due(x.many(3), 2);

        sentence(10, "BAD: also one and the same.");
        dueAll(BAD, x.touch(5, 0, 0), x.touch(5, 7, 7));
        dueAll(BAD, x.touch(-1, 0, 1), x.touch(6, 0, 1), x.touch(LEAST, 0, 1), x.touch(MOST, 0, 1));
        dueAll(BAD, x.touch(5, -1, 1), x.touch(5, 8, 1), x.touch(5, LEAST, 1), x.touch(5, MOST, 1));
        dueAll(BAD, x.touch(5, 1, -1), x.touch(5, 1, 8), x.touch(5, 1, LEAST), x.touch(5, 1, MOST));
        due(x.touch(5, -1, -1), BAD);

        sentence(12, "what = 0 the first one, 1 the second one.");
        due(x.touchOf(0, 0), 0);
        due(x.touchOf(0, 1), 7);
        due(x.touchOf(5, 0), 6);
        due(x.touchOf(5, 1), 1);

        sentence(12, "BAD; NONE: nobody does.");
        dueAll(NONE, x.touchOf(4, 0), x.touchOf(4, 1));
        dueAll(BAD, x.touchOf(4, -1), x.touchOf(4, 2), x.touchOf(4, LEAST), x.touchOf(4, MOST));
        dueAll(BAD, x.touchOf(0, -1), x.touchOf(0, 2), x.touchOf(-1, 0), x.touchOf(6, 0), x.touchOf(LEAST, 0));

        sentence(11, "Nobody touches in HOURS of a rest: 1 if any did, else 0.");
        due(x.part(4), 0);
        due(x.part(5), 1);
        due(x.part(5), 0);
        due(x.touchOf(5, 0), NONE);
        due(x.touchOf(0, 0), 0);
        due(x.part(0), 1);
        due(x.many(3), 0);

        sentence(11, "BAD.");
        dueAll(BAD, x.part(-1), x.part(6), x.part(LEAST), x.part(MOST));
    }

    private static void whoCall() {
        sentence(13, "what = 0 the MARKS ON it, as a set");
        TravelMarks x = new TravelMarks();
        due(x.who(7, 0), 0);
        more(x, 8, MARK, 0, 7);
        due(x.who(7, 0), 255);
        due(x.who(0, 0), 0);
        x.move(7, 0);
        due(x.who(0, 0), 128);
        due(x.who(7, 0), 127);

        sentence(TERMS, "OF one: the MARKS ON it.");
        for (int mark = 0; mark < 8; mark++) {
            due(x.who(x.of(mark, 2), 0) >> mark & 1, 1);
        }

        sentence(TERMS, "Sets are told by bits.");
        due(x.who(0, 0), 0x80);
        due(x.who(0, 1), 0x01);
        due(x.who(7, 1), 0x80);
        due(x.state(2), 0x81);
        due(x.state(4), 0xFF);

        sentence(13, "1 its CIRCLE, as a set");
        due(x.who(0, 1), 1);
        due(x.who(7, 1), 128);

        sentence(TERMS, "CIRCLE of one: that one, those whom it touches in HOURS of any rest, those whom these touch, and so on.");
        // The longest chain that six touches make, told in either order: the last of it are found from both ends.
        for (int turn = 0; turn < 2; turn++) {
            for (int rest = 0; rest < 6; rest++) {
                int one = turn == 0 ? rest : 5 - rest;
                x.touch(rest, one, one + 1);
            }
            for (int one = 0; one < 7; one++) {
                due(x.who(one, 1), 127);
            }
            due(x.who(7, 1), 128);
            x.part(3);
            due(x.who(0, 1), turn == 0 ? 0b0001111 : 0b0000111);
            due(x.who(6, 1), turn == 0 ? 0b1110000 : 0b1111000);
        }

        sentence(13, "BAD.");
        dueAll(BAD, x.who(-1, 0), x.who(8, 0), x.who(LEAST, 1), x.who(MOST, 1), x.who(-1, 1), x.who(8, 1));
        dueAll(BAD, x.who(0, -1), x.who(0, 2), x.who(0, LEAST), x.who(0, MOST));
    }

    private static void hoursCall() {
        sentence(14, "n HOURS (1 to 60)");
        TravelMarks x = told("name on 0; touch 5:0 with 1;");
        dueAll(BAD, x.hours(0), x.hours(61));
        due(x.state(0), 0);
        due(x.hours(1), 1);
        due(x.state(0), 1);
        due(x.hours(60), 1);
        due(x.state(0), 61);
        // Ten times in 60 HOURS it went to and fro.
        due(x.of(0, 2), 0);
        x.hours(5);
        due(x.of(0, 2), 1);

        sentence(14, "how many of PEOPLE have a MARK then");
        due(new TravelMarks().hours(60), 0);
        x = new TravelMarks();
        for (int i = 0; i < 8; i++) {
            x.mark(MARK, 1, i);
        }
        due(x.hours(1), 8);
        x.part(0);
        x.mind(7, SNAKE, 9);
        x.mind(6, SNAKE, 9);
        x.touch(1, 6, 7);
        due(x.hours(1), 7);

        sentence(14, "BAD.");
        dueAll(BAD, x.hours(-1), x.hours(LEAST), x.hours(MOST));
        due(x.state(0), 2);
    }

    // ---- promise 18

    private static void stateCall() {
        TravelMarks none = new TravelMarks();
        TravelMarks all = new TravelMarks();
        more(all, 8, MARK, 99, 7);
        TravelMarks spread = new TravelMarks();
        for (int i = 0; i < 8; i++) {
            spread.mark(MARK, 0, i);
        }
        sentence(18, "What = 0 HOUR");
        due(none.state(0), 0);

        sentence(18, "1 INK of all together");
        due(none.state(1), 0);
        due(all.state(1), 792);
        due(spread.state(1), 0);

        sentence(18, "2 those that have a MARK, as a set");
        due(none.state(2), 0);
        due(all.state(2), 128);
        due(spread.state(2), 255);

        sentence(18, "3 how many CIRCLES there are");
        due(none.state(3), 8);
        for (int rest = 0; rest < 6; rest++) {
            all.touch(rest, rest, rest + 1);
            due(all.state(3), 7 - rest);
            spread.touch(rest, 0, 7);
        }
        due(spread.state(3), 7);

        sentence(18, "4 MARKS whose INK is 0, as a set");
        due(none.state(4), 0);
        due(all.state(4), 0);
        due(spread.state(4), 255);
        spread.mind(0, MARK, 1);
        due(spread.state(4), 254);

        sentence(18, "5 the most MARKS that are ON one");
        due(none.state(5), 0);
        due(all.state(5), 8);
        due(spread.state(5), 1);
        spread.move(0, 7);
        due(spread.state(5), 2);
        for (int who = 0; who < 8; who++) {
            TravelMarks x = new TravelMarks();
            more(x, 8, MARK, 1, who);
            due(x.state(5), 8);
        }

        sentence(18, "BAD.");
        dueAll(BAD, all.state(-1), all.state(6), all.state(LEAST), all.state(MOST));
    }
}
