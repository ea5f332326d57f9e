import java.io.IOException;
import java.nio.charset.StandardCharsets;
import java.nio.file.Files;
import java.nio.file.Path;
import java.util.Map;
import java.util.TreeMap;

/** What the tests share: answers held against those that are due, texts on THE TAPE, the document's own sentences. */
abstract class Checks {
    static final int BAD = TravelMarks.BAD, FULL = TravelMarks.FULL, NONE = TravelMarks.NONE;
    static final int NO_ROW = -9, NOTHING = -11, OUTSIDE = -12, OTHER_SORT = -13, BELOW_0 = -14, PARTED_BY_0 = -15;
    static final int LEAST = Integer.MIN_VALUE, MOST = Integer.MAX_VALUE;
    static final int MARK = 0, SHIP = 1, SNAKE = 2, ANCHOR = 3, DRAGON = 4, NAME = 5;
    /** What is no promise's is told by these: the page README.md, and what the document says outside of promises. */
    static final int PAGE = -2, ABOUT = -1, TERMS = 0;
    static final int PROMISES = 44;
    static final String[] KINDS = {"mark", "ship", "snake", "anchor", "dragon", "name"};
    static final String[] LAWS = {"load", "fade", "tide", "chance"};

    /**
     * The ship on 0 goes to 1 once there is room: the other ship has INK for nine ways from 1 to 2 and back, and one
     * more. The two touch as the 60th HOUR begins, or as the 61st does.
     */
    static final String FREE_BEHIND_60 =
        "ship on 0; ship on 1 ink 19; load 1; fade 0; touch 0:1 with 2; touch 1:2 with 1; touch 5:0 with 1;";
    static final String FREE_BEHIND_61 =
        "ship on 0; ship on 1 ink 19; load 1; fade 0; touch 1:1 with 2; touch 2:2 with 1; touch 0:0 with 1;";

    private static final Map<Integer, String> PARAGRAPHS = new TreeMap<>();
    private static final Map<Integer, Integer> QUOTED = new TreeMap<>();

    static int promise = TERMS;
    private static String sentence = "";
    private static int wrong = 0;

    static void complain(String what) {
        wrong++;
        String quoted = sentence.isEmpty() ? "" : " \"" + sentence + "\"";
        System.out.println(place() + quoted + ": " + what);
    }

    private static String place() {
        return switch (promise) {
            case PAGE -> "README.md";
            case ABOUT -> "what it is";
            case TERMS -> "terms";
            default -> "promise " + promise;
        };
    }

    static void due(String call, long got, long want) {
        if (got != want) complain(call + " answered " + got + ", due is " + want);
    }

    /** The call is told by the line that it stands in. */
    static void due(long got, long want) {
        if (got != want) due("the call of " + lineOfTest(), got, want);
    }

    /** The line that asked, and behind it those that called it, up to the sentence's own. */
    static String lineOfTest() {
        return StackWalker.getInstance().walk(frames -> frames
            .filter(f -> !f.getClassName().equals("Checks"))
            .limit(3).map(f -> f.getFileName() + " line " + f.getLineNumber())
            .reduce((inner, outer) -> inner + ", from " + outer).orElse("a test"));
    }

    static void dueAll(long want, long... got) {
        for (int i = 0; i < got.length; i++) {
            if (got[i] != want) due("call " + (i + 1) + " of those of " + lineOfTest(), got[i], want);
        }
    }

    /** What follows tests this sentence, which must stand so in the promise's paragraph (or in the Terms). */
    static void sentence(int ofPromise, String quote) {
        promise = ofPromise;
        sentence = quote;
        QUOTED.merge(ofPromise, 1, Integer::sum);
        if (!paragraph(ofPromise).contains(plain(quote))) complain("the document does not say so");
    }

    private static String plain(String text) {
        return text.replaceAll("\\s+", " ");
    }

    static String paragraph(int ofPromise) {
        if (PARAGRAPHS.isEmpty()) {
            readDocument();
        }
        return PARAGRAPHS.getOrDefault(ofPromise, "");
    }

    private static void readDocument() {
        try {
            String all = Files.readString(Path.of("../shared/DOC.md"), StandardCharsets.UTF_8);
            for (String part : all.split("\n## ")) {
                String title = part.split("[\n:]")[0];
                if (title.equals("What it is")) PARAGRAPHS.put(ABOUT, plain(part));
                if (title.equals("Terms")) PARAGRAPHS.put(TERMS, plain(part));
                if (title.startsWith("Promise ")) PARAGRAPHS.put(Integer.parseInt(title.substring(8)), plain(part));
            }
        } catch (IOException e) {
            PARAGRAPHS.put(TERMS, "");
            complain("../shared/DOC.md can't be read: " + e);
        }
    }

    /** Terms and promises of which no sentence was tested are told. */
    static void dueSentencesOfAll() {
        for (promise = ABOUT; promise <= PROMISES; promise++) {
            sentence = "";
            if (!QUOTED.containsKey(promise)) complain("no sentence of it is tested");
        }
    }

    static void finish(String ifAllHolds) {
        System.out.println(wrong == 0 ? ifAllHolds : wrong + " answers are not as due");
        if (wrong != 0) System.exit(1);
    }

    // ---- texts

    /** A text comes to THE TAPE. */
    static void tell(TravelMarks x, String text) {
        for (int at = 0; at < text.length(); at += 8) {
            int n = Math.min(8, text.length() - at);
            long eight = 0;
            for (int i = n - 1; i >= 0; i--) {
                eight = eight << 8 | text.charAt(at + i);
            }
            x.feed(eight, n);
        }
    }

    static int ported(TravelMarks x, String text) {
        tell(x, text);
        return x.port();
    }

    static int ported(String text) {
        return ported(new TravelMarks(), text);
    }

    static TravelMarks told(String text) {
        TravelMarks x = new TravelMarks();
        int answer = ported(x, text);
        if (answer < 0) complain("\"" + text + "\" is refused: " + answer);
        return x;
    }

    // ---- what is asked of several calls at once

    static void dueMark(TravelMarks x, int mark, int kind, int ink, int on) {
        due("of(" + mark + ", 0)", x.of(mark, 0), kind);
        due("of(" + mark + ", 1)", x.of(mark, 1), ink);
        due("of(" + mark + ", 2)", x.of(mark, 2), on);
    }

    static void dueRow(TravelMarks x, int i, int on, int ink, int went) {
        due("row(" + i + ", 0)", x.row(i, 0), on);
        due("row(" + i + ", 1)", x.row(i, 1), ink);
        due("row(" + i + ", 2)", x.row(i, 2), went);
    }

    static void dueTrace(TravelMarks x, int... bodies) {
        due("many(6)", x.many(6), bodies.length);
        for (int i = 0; i < bodies.length; i++) {
            due("trace(" + i + ")", x.trace(i), bodies[i]);
        }
        due("trace(" + bodies.length + ")", x.trace(bodies.length), NONE);
    }

    static void dueAct(TravelMarks x, int act, int with, int answer, int... bodies) {
        due("act(0, " + act + ", " + with + ")", x.act(0, act, with), answer);
        dueTrace(x, bodies);
    }

    static void sheetOf(TravelMarks x, int sheet, int sort, int... items) {
        x.sheet(sheet, sort, items.length);
        for (int i = 0; i < items.length; i++) {
            x.put(sheet, i, items[i]);
        }
    }
}
