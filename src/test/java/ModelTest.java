import java.util.Arrays;

/** Long runs of calls, the same ones each time, on the program and on PlainPort: every answer must be the same. */
public final class ModelTest {
    private static final int RUNS = 1500, CALLS = 512, CALLS_OF_ALIKE = 127, CALLS_OF_TEXT = 26;
    private static final int METHODS = 44;
    private static final String[] WORDS = {
        "mark", "ship", "snake", "anchor", "dragon", "name", "on", "ink", "touch", "with", "load", "fade", "tide",
        "chance", ";", ":", "marks", "0", "1", "3", "5", "7", "8", "9", "99", "100", "007", "0000", "x", "\t",
        "\u00ff", "A", "-", "onink",
    };
    private static final int[] ODD = {
        -1, 8, 9, -2, 60, 61, 30, 31, 99, 100, 40, 41, Integer.MIN_VALUE, Integer.MAX_VALUE,
    };

    private long state;

    private ModelTest(long seed) {
        state = seed * 0x9E3779B97F4A7C15L + 1;
    }

    private int below(int n) {
        state = state * 6364136223846793005L + 1442695040888963407L;
        return (int) ((state >>> 33) % n);
    }

    /** Mostly lo to hi, now and then just beyond, now and then anything. */
    private int arg(int lo, int hi) {
        int dice = below(40);
        if (dice == 0) return ODD[below(ODD.length)];
        if (dice == 1) return lo - 1;
        if (dice == 2) return hi + 1;
        if (dice == 3) return hi;
        return lo + below(hi - lo + 1);
    }

    private String gap() {
        return " ".repeat(below(6) == 0 ? 2 : 1);
    }

    private String sign(String s) {
        return below(2) == 0 ? s : " " + s;
    }

    private String order() {
        String[] kinds = {"mark", "ship", "snake", "anchor", "dragon", "name"};
        String[] laws = {"load", "fade", "tide", "chance"};
        int dice = below(20);
        if (dice < 10) {
            String ink = below(2) == 0 ? "" : gap() + "ink" + gap() + arg(0, 99);
            return kinds[below(6)] + gap() + "on" + gap() + arg(0, 7) + ink + sign(";");
        }
        if (dice < 17) {
            return "touch" + gap() + arg(0, 5) + sign(":") + arg(0, 7) + gap() + "with" + gap() + arg(0, 7) + sign(";");
        }
        int law = below(4);
        return laws[law] + gap() + (1 + below(law == 3 ? 99 : 8)) + sign(";");
    }

    private String text() {
        StringBuilder b = new StringBuilder();
        int orders = below(3) == 0 ? below(12) : 6 + below(6);
        for (int i = 0; i < orders; i++) {
            b.append(order());
            if (below(3) == 0) b.append(' ');
        }
        if (below(3) == 0 && b.length() > 0) {
            b.insert(below(b.length()), WORDS[below(WORDS.length)]);
        }
        if (below(4) == 0 && b.length() > 0) {
            b.setLength(below(b.length()));
        }
        if (b.length() > 200) b.setLength(200);
        return b.toString();
    }

    private static long call(Object o, int method, long eight, int a, int b, int c, int d) {
        if (o instanceof TravelMarks x) {
            return callProgram(x, method, eight, a, b, c, d);
        }
        return callModel((PlainPort) o, method, eight, a, b, c, d);
    }

    private static long callProgram(TravelMarks x, int method, long eight, int a, int b, int c, int d) {
        return switch (method) {
            case 2 -> x.feed(eight, a);
            case 3 -> x.port();
            case 4 -> x.set(a, b);
            case 5 -> x.lawOf(a);
            case 6 -> x.mark(a, b, c);
            case 7 -> x.of(a, b);
            case 8 -> x.mind(a, b, c);
            case 9 -> x.move(a, b);
            case 10 -> x.touch(a, b, c);
            case 11 -> x.part(a);
            case 12 -> x.touchOf(a, b);
            case 13 -> x.who(a, b);
            case 14 -> x.hours(a);
            case 15 -> x.seed(a);
            case 16 -> x.hour();
            case 17 -> x.stir(a);
            case 18 -> x.state(a);
            case 19 -> x.where(a, b);
            case 20 -> x.comes(a, b);
            case 21 -> x.bare(a);
            case 22 -> x.dry();
            case 23 -> x.kindFor(a, b, c);
            case 24 -> x.inkFor(a, b, c);
            case 25 -> x.touchFor(a, b, c);
            case 26 -> x.apartFor(a, b, c);
            case 27 -> x.fits(a, b, c);
            case 28 -> x.odds(a, b, c);
            case 29 -> x.hope(a, b);
            case 30 -> x.prove(a, b);
            case 31 -> x.row(a, b);
            case 32 -> x.alterRow(a, b, c);
            case 33 -> x.judge(a);
            case 34 -> x.minds(a, b, c, d);
            case 35 -> x.sheet(a, b, c);
            case 36 -> x.put(a, b, c);
            case 37 -> x.item(a, b, c);
            case 38 -> x.shelf(a, b, c);
            case 39 -> x.taken(a, b);
            case 40 -> x.act(a, b, c);
            case 41 -> x.trace(a);
            case 42 -> x.many(a);
            case 43 -> x.keep();
            default -> x.again();
        };
    }

    private static long callModel(PlainPort x, int method, long eight, int a, int b, int c, int d) {
        return switch (method) {
            case 2 -> x.feed(eight, a);
            case 3 -> x.port();
            case 4 -> x.set(a, b);
            case 5 -> x.lawOf(a);
            case 6 -> x.mark(a, b, c);
            case 7 -> x.of(a, b);
            case 8 -> x.mind(a, b, c);
            case 9 -> x.move(a, b);
            case 10 -> x.touch(a, b, c);
            case 11 -> x.part(a);
            case 12 -> x.touchOf(a, b);
            case 13 -> x.who(a, b);
            case 14 -> x.hours(a);
            case 15 -> x.seed(a);
            case 16 -> x.hour();
            case 17 -> x.stir(a);
            case 18 -> x.state(a);
            case 19 -> x.where(a, b);
            case 20 -> x.comes(a, b);
            case 21 -> x.bare(a);
            case 22 -> x.dry();
            case 23 -> x.kindFor(a, b, c);
            case 24 -> x.inkFor(a, b, c);
            case 25 -> x.touchFor(a, b, c);
            case 26 -> x.apartFor(a, b, c);
            case 27 -> x.fits(a, b, c);
            case 28 -> x.odds(a, b, c);
            case 29 -> x.hope(a, b);
            case 30 -> x.prove(a, b);
            case 31 -> x.row(a, b);
            case 32 -> x.alterRow(a, b, c);
            case 33 -> x.judge(a);
            case 34 -> x.minds(a, b, c, d);
            case 35 -> x.sheet(a, b, c);
            case 36 -> x.put(a, b, c);
            case 37 -> x.item(a, b, c);
            case 38 -> x.shelf(a, b, c);
            case 39 -> x.taken(a, b);
            case 40 -> x.act(a, b, c);
            case 41 -> x.trace(a);
            case 42 -> x.many(a);
            case 43 -> x.keep();
            default -> x.again();
        };
    }

    /** The arguments of a call of that method, by what it takes. */
    private int[] args(int method, PlainPort y) {
        int[] r = new int[4];
        int marks = Math.max(1, y.w.marks.size());
        switch (method) {
            case 2 -> r[0] = arg(1, 8);
            case 4 -> { r[0] = arg(0, 3); r[1] = arg(0, r[0] == 3 ? 99 : 9); }
            case 5 -> r[0] = arg(0, 3);
            case 6 -> { r[0] = arg(0, 5); r[1] = arg(0, below(2) == 0 ? 9 : 99); r[2] = arg(0, 7); }
            case 7 -> { r[0] = arg(0, marks - 1); r[1] = arg(0, 4); }
            case 8 -> { r[0] = arg(0, marks - 1); r[1] = arg(0, 5); r[2] = arg(0, below(2) == 0 ? 9 : 99); }
            case 9 -> { r[0] = arg(0, marks - 1); r[1] = arg(0, 7); }
            case 10 -> { r[0] = arg(0, 5); r[1] = arg(0, 7); r[2] = arg(0, 7); }
            case 11 -> r[0] = arg(0, 5);
            case 12 -> { r[0] = arg(0, 5); r[1] = arg(0, 1); }
            case 13 -> { r[0] = arg(0, 7); r[1] = arg(0, 1); }
            case 14 -> r[0] = below(2) == 0 ? arg(1, 3) : arg(1, 60);
            case 15 -> r[0] = (int) (state >>> 16);
            case 17 -> r[0] = arg(1, 30);
            case 18 -> r[0] = arg(0, 5);
            case 19 -> { r[0] = arg(0, marks - 1); r[1] = arg(0, 60); }
            case 20 -> { r[0] = arg(0, marks - 1); r[1] = arg(0, 7); }
            case 21 -> r[0] = arg(0, 7);
            case 23, 24, 25, 26 -> { r[0] = arg(0, marks - 1); r[1] = arg(0, 7); r[2] = arg(0, 30); }
            case 27 -> { r[0] = arg(0, 3); r[1] = arg(0, marks - 1); r[2] = arg(0, 1); }
            case 28 -> { r[0] = arg(0, 8); r[1] = arg(0, Math.max(0, Math.min(8, r[0]))); r[2] = arg(0, 1); }
            case 29 -> { r[0] = arg(0, 99); r[1] = arg(0, 1); }
            case 30 -> { r[0] = arg(0, marks - 1); r[1] = arg(1, 10); }
            case 31 -> { r[0] = arg(0, 9); r[1] = arg(0, 2); }
            case 32 -> { r[0] = arg(0, 9); r[1] = arg(0, 2); r[2] = below(2) == 0 ? arg(0, 9) : arg(0, 99); }
            case 33 -> r[0] = arg(0, marks - 1);
            case 34 -> { r[0] = arg(0, 3); r[1] = arg(0, 6); r[2] = arg(0, marks - 1); r[3] = below(3) == 0 ? arg(0, 4) : below(marks); }
            case 35 -> { r[0] = arg(0, 3); r[1] = below(2) == 0 ? 0 : arg(below(6) == 0 ? -1 : 0, 3); r[2] = below(3) != 0 ? arg(0, 5) : arg(-1, 40); }
            case 36 -> { r[0] = arg(0, 3); r[1] = arg(0, 4); r[2] = below(4) == 0 ? (int) (state >>> 16) : below(2) - 1 + below(2) * below(8); }
            case 37 -> { r[0] = arg(0, 3); r[1] = below(2) == 0 ? 0 : arg(0, 3); r[2] = arg(0, 4); }
            case 38 -> { r[0] = arg(0, 3); r[1] = below(2) == 0 ? 0 : arg(0, below(8) == 0 ? 2 : 1); r[2] = arg(0, r[1] == 0 ? marks - 1 : 3); }
            case 39 -> { r[0] = arg(0, 3); r[1] = arg(0, 13); }
            case 40 -> { r[0] = arg(0, 3); r[1] = arg(0, 3); r[2] = below(2) == 0 ? (int) (state >>> 16) : arg(-20, 20); }
            case 41 -> r[0] = arg(0, 11);
            case 42 -> r[0] = arg(0, 6);
            default -> { }
        }
        return r;
    }

    /** Four of any ints: none may bring the program to throw. */
    private int[] wild() {
        int[] r = new int[4];
        for (int i = 0; i < r.length; i++) {
            r[i] = below(3) == 0 ? below(8) : below(2) == 0 ? ODD[below(ODD.length)] : (int) (state >>> 16);
        }
        return r;
    }

    private static boolean feedBoth(TravelMarks x, PlainPort y, String text) {
        boolean same = true;
        for (int at = 0; at < text.length(); at += 8) {
            int n = Math.min(8, text.length() - at);
            long eight = 0;
            for (int i = n - 1; i >= 0; i--) {
                eight = eight << 8 | text.charAt(at + i);
            }
            same &= x.feed(eight, n) == y.feed(eight, n);
        }
        return same;
    }

    /** All that can be asked of how the two are. */
    private static boolean alike(TravelMarks x, PlainPort y) {
        boolean same = true;
        int[][] asked = {{5, 4, 1}, {7, 8, 5}, {12, 6, 2}, {13, 8, 2}, {18, 6, 1}, {31, 10, 3}, {41, 12, 1}, {42, 7, 1}};
        for (int[] ask : asked) {
            for (int a = 0; a < ask[1]; a++) {
                for (int b = 0; b < ask[2]; b++) {
                    same &= call(x, ask[0], 0, a, b, 0, 0) == call(y, ask[0], 0, a, b, 0, 0);
                }
            }
        }
        return same;
    }

    private static int wrong(int run, String what) {
        System.out.println("run " + run + ": " + what);
        return 1;
    }

    /** Some that all hangs on, so that the calls behind them have something to ask of: how many calls. */
    private int setUp(TravelMarks x, PlainPort y) {
        int[] methods = {6, 6, 6, 6, 6, 6, 10, 10, 10, 10, 10, 35, 35, 35, 38, 38, 38, 43};
        for (int method : methods) {
            int[] r = args(method, y);
            call(x, method, 0, r[0], r[1], r[2], r[3]);
            call(y, method, 0, r[0], r[1], r[2], r[3]);
        }
        return methods.length;
    }

    /** Calls that take away much, and those that ask least, come more seldom. */
    private int nextMethod() {
        int method = 2 + below(METHODS - 1);
        boolean seldom = method == 3 || method == 14 || method == 11 || method == 35 || method == 28 || method == 29;
        return seldom && below(5) != 0 ? 2 + below(METHODS - 1) : method;
    }

    private int run(int run) {
        TravelMarks x = new TravelMarks();
        PlainPort y = new PlainPort();
        int calls = setUp(x, y);
        int untilAlike = 60;
        while (calls < CALLS - CALLS_OF_ALIKE - CALLS_OF_TEXT) {
            int method = nextMethod();
            if (method == 2 && below(2) == 0 || method == 3 && below(4) != 0) {
                String text = text();
                if (!feedBoth(x, y, text)) return wrong(run, "feed of " + text);
                calls += (text.length() + 7) / 8;
                if (method == 3) {
                    int got = x.port();
                    int due = y.port();
                    if (got != due) return wrong(run, "port of \"" + text + "\" answered " + got + ", due is " + due);
                }
            } else {
                int[] r = below(15) == 0 ? wild() : args(method, y);
                long eight = state;
                long got = call(x, method, eight, r[0], r[1], r[2], r[3]);
                long due = call(y, method, eight, r[0], r[1], r[2], r[3]);
                if (got != due) {
                    return wrong(run, "promise " + method + " of " + Arrays.toString(r) + " answered " + got + ", due is " + due);
                }
            }
            calls++;
            if (calls >= untilAlike && calls <= CALLS - 2 * CALLS_OF_ALIKE - CALLS_OF_TEXT) {
                if (!alike(x, y)) return wrong(run, "not alike behind promise " + method);
                calls += CALLS_OF_ALIKE;
                untilAlike = calls + 60;
            }
        }
        return alike(x, y) ? 0 : wrong(run, "not alike at the end");
    }

    public static void main(String[] args) {
        int wrong = 0;
        int runs = args.length > 0 ? Integer.parseInt(args[0]) : RUNS;
        for (int run = 0; run < runs; run++) {
            wrong += new ModelTest(run + 1).run(run);
        }
        System.out.println(wrong == 0 ? "all runs are as the model's" : wrong + " runs are not as the model's");
        if (wrong != 0) System.exit(1);
    }
}
