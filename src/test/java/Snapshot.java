import java.util.LinkedHashMap;
import java.util.Map;
import java.util.TreeSet;

/** All that can be asked of an object, by what it belongs to. Taking it uses the object up. */
final class Snapshot {
    static final String PORT = "port", Z = "z", ROWS = "rows", TAPE = "tape", SHEETS = "sheets", SHELVES = "shelves",
        TRACE = "trace", KEPT = "kept";

    private final Map<String, Long> answers = new LinkedHashMap<>();

    Snapshot(TravelMarks x) {
        port(PORT, x);
        for (int mark = 0; mark < 8; mark++) {
            note(PORT, "of 3", x.of(mark, 3));
            note(PORT, "of 4", x.of(mark, 4));
        }
        for (int what = 0; what < 6; what++) {
            note(PORT, "state", x.state(what));
        }
        things(x);
        note(Z, "seed", x.seed(1));
        // What THE TAPE tells and what is kept are seen when all becomes it; these come last, for all goes then.
        note(TAPE, "port", x.port());
        port(TAPE, x);
        int kept = x.again();
        note(KEPT, "again", kept);
        if (kept >= 0) {
            port(KEPT, x);
            note(KEPT, "hour", x.state(0));
            note(KEPT, "seed", x.seed(1));
        }
    }

    private void note(String belongs, String call, long answer) {
        answers.put(belongs + ": " + call + ", " + answers.size(), answer);
    }

    private void port(String belongs, TravelMarks x) {
        note(belongs, "many 0", x.many(0));
        for (int law = 0; law < 4; law++) {
            note(belongs, "lawOf", x.lawOf(law));
        }
        for (int mark = 0; mark < 8; mark++) {
            for (int what = 0; what < 3; what++) {
                note(belongs, "of " + what, x.of(mark, what));
            }
        }
        for (int rest = 0; rest < 6; rest++) {
            note(belongs, "touchOf 0", x.touchOf(rest, 0));
            note(belongs, "touchOf 1", x.touchOf(rest, 1));
        }
    }

    private void things(TravelMarks x) {
        note(ROWS, "many 4", x.many(4));
        for (int i = 0; i < 10; i++) {
            for (int what = 0; what < 3; what++) {
                note(ROWS, "row", x.row(i, what));
            }
        }
        note(TAPE, "many 5", x.many(5));
        note(TRACE, "many 6", x.many(6));
        for (int i = 0; i < 12; i++) {
            note(TRACE, "trace", x.trace(i));
        }
        for (int i = 0; i < 4; i++) {
            for (int sort = 0; sort < 4; sort++) {
                for (int at = 0; at < 6; at++) {
                    note(SHEETS, "item", x.item(i, sort, at));
                }
                note(SHELVES, "taken", x.taken(i, 10 + sort));
            }
            for (int kind = 0; kind < 6; kind++) {
                note(SHELVES, "taken", x.taken(i, kind));
            }
        }
    }

    /** To what those belong that are answered otherwise. */
    TreeSet<String> unlike(Snapshot other) {
        TreeSet<String> unlike = new TreeSet<>();
        answers.forEach((call, answer) -> {
            if (!answer.equals(other.answers.get(call))) unlike.add(call.substring(0, call.indexOf(':')));
        });
        return unlike;
    }
}
