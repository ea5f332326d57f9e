import java.math.BigInteger;

/** The sentences that name a boundary, of what is drawn and of chance: Terms 2, promises 15 to 17, 28 and 29. */
final class DrawBounds extends Checks {

    static void run() {
        seedCall();
        draws();
        chance();
        touchAtOnce();
        hourCall();
        stirCall();
        stirIsReplayed();
        oddsCall();
        hopeCall();
        fractions();
    }

    /** z behind one draw, written with longs. */
    private static int next(int z) {
        return (int) ((z * 1103515245L + 12345L) & 0xFFFFFFFFL);
    }

    private static int drawn(int z) {
        return (int) ((z & 0xFFFFFFFFL) / 65536);
    }

    /** A z from which these are drawn, all three from a z below 0 or all from one of 0 or more. */
    private static int seedOf(int one, int byHundred, int other, boolean below0) {
        for (int v = 0; v < 2_000_000; v++) {
            int first = next(v);
            int second = next(first);
            int third = next(second);
            boolean signs = first < 0 == below0 && second < 0 == below0 && third < 0 == below0;
            boolean same = drawn(first) % 8 == one && drawn(second) % 100 == byHundred && drawn(third) % 8 == other;
            if (signs && same) {
                return v;
            }
        }
        complain("no z draws " + one + ", " + byHundred + ", " + other);
        return 0;
    }

    private static int seedOf(int one, int byHundred, int other) {
        return seedOf(one, byHundred, other, true);
    }

    /** One of the MARKS ON each of PEOPLE, by its number. */
    private static TravelMarks eight(int chance, int z) {
        TravelMarks x = new TravelMarks();
        for (int i = 0; i < 8; i++) {
            x.mark(MARK, 99, i);
        }
        x.set(3, chance);
        x.seed(z);
        return x;
    }

    // ---- DRAWS

    private static void seedCall() {
        sentence(15, "z becomes v: what it was.");
        TravelMarks x = new TravelMarks();
        due(x.seed(LEAST), 1);
        due(x.seed(MOST), LEAST);
        due(x.seed(0), MOST);
        due(x.seed(-1), 0);
        due(x.seed(-3), -1);
        due(x.seed(0), -3);
    }

    private static void draws() {
        sentence(TERMS, "z (an int; 1 at first) becomes z * 1103515245 + 12345");
        due(new TravelMarks().seed(0), 1);
        int[] seeds = {0, 1, -1, LEAST, MOST, LEAST + 1, MOST - 1, 12345, -987654321};
        for (int v : seeds) {
            TravelMarks x = new TravelMarks();
            x.set(3, 0);
            x.seed(v);
            x.hour();
            due(x.seed(v), next(next(v)));
            x.hour();
            x.hour();
            due(x.seed(0), next(next(next(next(v)))));
        }

        sentence(TERMS, "z >>> 16 is drawn");
        TravelMarks x = eight(99, seedOf(3, 50, 5, true));
        x.hour();
        due(x.who(3, 0), 1 << 5);
        x = eight(99, seedOf(3, 50, 5, false));
        x.hour();
        due(x.who(3, 0), 1 << 5);

        sentence(TERMS, "a draw: the one that it leaves by 8");
        for (int one = 0; one < 8; one++) {
            int other = 7 - one;
            x = eight(99, seedOf(one, 7, other));
            due(x.hour(), 8);
            for (int who = 0; who < 8; who++) {
                due(x.who(who, 0), 1 << (who == one || who == other ? 7 - who : who));
            }
        }
    }

    private static void chance() {
        sentence(TERMS, "and one more: if what that leaves by 100 is below CHANCE");
        int[] chances = {0, 1, 20, 98, 99};
        for (int c : chances) {
            int v = seedOf(2, c, 6);
            TravelMarks x = eight(c, v);
            x.hour();
            due(x.who(2, 0), 1 << 2);
            due(x.seed(0), next(next(v)));
            if (c > 0) {
                v = seedOf(2, c - 1, 6);
                x = eight(c, v);
                x.hour();
                due(x.who(2, 0), 1 << 6);
                due(x.seed(0), next(next(next(v))));
            }
        }
        // By CHANCE 0 none touch, by CHANCE 99 all but those of 99.
        TravelMarks x = eight(0, seedOf(2, 0, 6));
        x.hour();
        due(x.who(2, 0), 1 << 2);
    }

    private static void touchAtOnce() {
        sentence(TERMS, "that one and the one that a third draw leaves by 8 touch at once");
        for (int other = 1; other < 8; other++) {
            TravelMarks x = eight(50, seedOf(0, 49, other));
            x.hour();
            due(x.who(0, 0), 1 << other);
            due(x.who(other, 0), 1);
        }

        // What went over in the HOUR before does not go with them.
        TravelMarks before = told("mark on 5; mark on 0; touch 0:5 with 7; chance 99;");
        before.hours(1);
        before.seed(seedOf(0, 49, 1));
        before.hour();
        dueMark(before, 0, MARK, 8, 7);
        dueMark(before, 1, MARK, 8, 1);

        sentence(TERMS, "as in an HOUR that begins now");
        TravelMarks x = told("anchor on 0 ink 99; snake on 7; ship on 0; mark on 7; chance 99; load 2;");
        x.seed(seedOf(0, 0, 7));
        x.hour();
        // The anchor finds no room (LOAD 2), nor the ship; the snake can't go down; the mark can.
        due(x.who(0, 0), 0b1101);
        x = told("anchor on 0 ink 99; chance 99;");
        x.hours(1);
        x.seed(seedOf(0, 0, 7));
        x.hour();
        dueMark(x, 0, ANCHOR, 99, 0);
        x.seed(seedOf(0, 0, 7));
        x.hour();
        dueMark(x, 0, ANCHOR, 95, 7);

        sentence(TERMS, "(nothing, if it is the same one; HOUR stays)");
        for (int one = 0; one < 8; one++) {
            int v = seedOf(one, 5, one);
            x = eight(99, v);
            x.hour();
            due(x.seed(0), next(next(next(v))));
            due(x.state(0), 1);
            dueMark(x, one, MARK, 99, one);
        }
        x = told("mark on 0; touch 0:7 with 1; touch 1:7 with 2; chance 99;");
        x.seed(seedOf(0, 5, 7));
        x.hour();
        due(x.of(0, 2), 1);
        due(x.state(0), 1);

        sentence(TERMS, "then an HOUR.");
        x = told("mark on 0; mark on 3; touch 0:0 with 3; chance 0;");
        due(x.hour(), 2);
        dueMark(x, 0, MARK, 8, 3);
        due(x.state(0), 1);
        // The same two touch by chance and by the HOUR: there and back.
        x = told("mark on 0; touch 0:0 with 3; chance 99;");
        x.seed(seedOf(0, 5, 3));
        x.hour();
        dueMark(x, 0, MARK, 7, 0);
    }

    private static void hourCall() {
        sentence(16, "AN HOUR BY DRAWS: how many of PEOPLE have a MARK then.");
        due(new TravelMarks().hour(), 0);
        due(eight(0, 1).hour(), 8);
        TravelMarks x = told("snake on 0; mark on 7 ink 0; chance 99;");
        x.seed(seedOf(0, 98, 7));
        due(x.hour(), 1);
        x = told("mark on 0; mark on 0 ink 0; touch 0:0 with 7; chance 0;");
        due(x.hour(), 2);
    }

    // ---- STIR

    private static void stirCall() {
        sentence(17, "STIR (n 1 to 30).");
        TravelMarks x = eight(99, seedOf(0, 50, 7));
        dueAll(BAD, x.stir(0), x.stir(31));
        due(x.stir(1), 1);
        x.seed(seedOf(0, 99, 7));
        due(x.stir(1), 0);
        due(x.stir(30) > 20 ? 1 : 0, 1);
        due(new TravelMarks().stir(30), 0);

        sentence(17, "BAD.");
        dueAll(BAD, x.stir(-1), x.stir(LEAST), x.stir(MOST));

        sentence(TERMS, "any MARK is ON another one then than behind an HOUR (nothing changes, z neither)");
        int v = seedOf(0, 50, 7);
        x = told("mark on 3; mark on 3; mark on 3; mark on 3; mark on 3; mark on 3; mark on 3; mark on 0; chance 99;");
        x.seed(v);
        due(x.stir(1), 1);
        due(x.seed(v), v);
        due(x.state(0), 0);
        dueMark(x, 7, MARK, 9, 0);
        // INK alone is not where it is, and now is not behind an HOUR.
        x.set(1, 5);
        x.move(7, 3);
        due(x.stir(1), 0);
        x = told("mark on 0; touch 0:0 with 3; chance 0;");
        due(x.stir(30), 0);
        x = told("mark on 0 ink 50; touch 0:0 with 7; chance 99;");
        x.seed(v);
        due(x.stir(1), 1);
    }

    /** Each of the n HOURS is passed from what is kept, by the z that the one before left. */
    private static void stirIsReplayed() {
        sentence(TERMS, "in how many of n HOURS BY DRAWS, each tried from how all is now (z alone goes on)");
        TravelMarks x = told("mark on 6; ship on 1; touch 0:6 with 2; chance 60;");
        x.seed(-77);
        x.keep();
        x.hours(1);
        int calmFirst = x.of(0, 2);
        int calmSecond = x.of(1, 2);
        int z = -77;
        int stirred = 0;
        int[] dues = new int[31];
        for (int n = 1; n <= 30; n++) {
            x.again();
            x.seed(z);
            x.hour();
            stirred += x.of(0, 2) != calmFirst || x.of(1, 2) != calmSecond ? 1 : 0;
            z = x.seed(0);
            dues[n] = stirred;
        }
        x.again();
        for (int n = 1; n <= 30; n++) {
            due(x.stir(n), dues[n]);
        }
        due(stirred > 3 && stirred < 27 ? 1 : 0, 1);
    }

    // ---- chance

    private static void oddsCall() {
        sentence(28, "ODDS by n (0 to 8), k (0 to n)");
        TravelMarks x = new TravelMarks();
        for (int n = 0; n <= 8; n++) {
            dueAll(BAD, x.odds(n, -1, 0), x.odds(n, n + 1, 0));
            for (int k = 0; k <= n; k++) {
                dueOdds(x, 20, n, k);
            }
        }
        dueAll(BAD, x.odds(-1, 0, 0), x.odds(9, 0, 0), x.odds(-1, -1, 0), x.odds(9, 9, 1));

        sentence(28, "a part of them. BAD.");
        dueAll(BAD, x.odds(8, 4, -1), x.odds(8, 4, 2), x.odds(0, 0, LEAST), x.odds(0, 0, MOST));
        dueAll(BAD, x.odds(LEAST, 0, 0), x.odds(MOST, 0, 0), x.odds(8, LEAST, 0), x.odds(8, MOST, 0));

        sentence(TERMS, "that of n nights just k have a chance touch, each by CHANCE of a hundred");
        int[] chances = {0, 1, 50, 97, 99};
        for (int chance : chances) {
            x.set(3, chance);
            for (int k = 0; k <= 8; k++) {
                dueOdds(x, chance, 8, k);
            }
        }
    }

    private static void dueOdds(TravelMarks x, int chance, int n, int k) {
        BigInteger ways = BigInteger.ONE;
        for (int i = 0; i < k; i++) {
            ways = ways.multiply(BigInteger.valueOf(n - i)).divide(BigInteger.valueOf(i + 1));
        }
        BigInteger above = ways.multiply(BigInteger.valueOf(chance).pow(k)).multiply(BigInteger.valueOf(100 - chance).pow(n - k));
        BigInteger below = BigInteger.valueOf(100).pow(n);
        BigInteger divisor = above.gcd(below);
        due(x.odds(n, k, 0), above.divide(divisor).longValueExact());
        due(x.odds(n, k, 1), below.divide(divisor).longValueExact());
    }

    private static void dueHope(TravelMarks x, int n, long above, long below) {
        due(x.hope(n, 0), above);
        due(x.hope(n, 1), below);
    }

    private static void hopeCall() {
        sentence(29, "HOPE by n (0 to 99)");
        TravelMarks x = new TravelMarks();
        dueAll(BAD, x.hope(-1, 0), x.hope(100, 0));
        dueHope(x, 0, 0, 1);
        dueHope(x, 99, 99, 5);

        sentence(29, "a part of it. BAD.");
        dueAll(BAD, x.hope(5, -1), x.hope(5, 2), x.hope(5, LEAST), x.hope(5, MOST), x.hope(LEAST, 0), x.hope(MOST, 1));

        sentence(TERMS, "HOPE by n: how many have on average.");
        dueHope(x, 1, 1, 5);
        dueHope(x, 5, 1, 1);
        x.set(3, 99);
        dueHope(x, 99, 9801, 100);
        x.set(3, 1);
        dueHope(x, 99, 99, 100);
        x.set(3, 0);
        dueHope(x, 99, 0, 1);
    }

    private static void fractions() {
        sentence(TERMS, "0 above the line, 1 below it, without a common divisor, below above 0 (0 is 0 by 1)");
        TravelMarks x = new TravelMarks();
        dueHope(x, 0, 0, 1);
        dueHope(x, 10, 2, 1);
        x.set(3, 0);
        dueHope(x, 5, 0, 1);
        due(x.odds(8, 8, 0), 0);
        due(x.odds(8, 8, 1), 1);
        due(x.odds(8, 0, 0), 1);
        due(x.odds(8, 0, 1), 1);
        due(x.odds(0, 0, 0), 1);
        due(x.odds(0, 0, 1), 1);
        x.set(3, 50);
        due(x.odds(8, 4, 0), 35);
        due(x.odds(8, 4, 1), 128);
        // The greatest that is asked for is far above an int.
        x.set(3, 99);
        due(x.odds(8, 8, 0), 9227446944279201L);
        due(x.odds(8, 8, 1), 10000000000000000L);
    }
}
