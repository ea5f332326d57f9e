import java.io.IOException;
import java.lang.reflect.Method;
import java.lang.reflect.Modifier;
import java.nio.charset.StandardCharsets;
import java.nio.file.Files;
import java.nio.file.Path;
import java.util.ArrayList;
import java.util.List;
import java.util.Map;
import java.util.TreeMap;
import java.util.TreeSet;
import java.util.regex.Matcher;
import java.util.regex.Pattern;

/** README.md: its examples answer as it says, and it tells every call of the face with the refusals of its promise. */
public final class ReadmeTest extends Checks {
    private static final Pattern CALL = Pattern.compile("^\\| `(\\w+)\\(([^)]*)\\)` \\|.*\\|([^|]*)\\|$", Pattern.MULTILINE);
    private static final Pattern REFUSAL = Pattern.compile("BAD|FULL|NONE|-9\\b|-1[1-5]\\b|-100\\b");

    private final String readme = read("README.md");
    private final String own = read("src/test/java/ReadmeTest.java");

    private static String read(String path) {
        try {
            return Files.readString(Path.of(path), StandardCharsets.UTF_8);
        } catch (IOException e) {
            complain(path + " can't be read: " + e);
            return "";
        }
    }

    // ---- the examples: each stands in README.md as it stands here

    private void firstExample() {
        // example
        TravelMarks port = new TravelMarks();
        int load = port.set(0, 2);            // 3: LOAD was that
        int ship = port.mark(1, 9, 0);        // 0: the first one, a ship with INK 9, ON 0
        int touch = port.touch(0, 0, 3);      // 1: in HOURS 0, 6, 12, .. 0 and 3 touch
        int soonest = port.comes(ship, 3);    // 1: behind 1 HOUR it is ON 3 (tried: nothing changes)
        int have = port.hours(1);             // 1: one of PEOPLE has a MARK then
        int on = port.of(ship, 2);            // 3: ON whom it is now
        int ink = port.of(ship, 1);           // 7: a ship FADES 2
        int none = port.of(8, 1);             // -1: BAD, there is no such one
        int never = port.comes(ship, 5);      // -3: NONE, not by then
        // end
        dueAnswers(0, load, ship, touch, soonest, have, on, ink, none, never);
    }

    private void secondExample() {
        // example
        TravelMarks told = new TravelMarks();
        String text = "name on 4; touch 0: 4 with 5; load 2;";
        int bytes = 0;
        for (int i = 0; i < text.length(); i++) {
            bytes = told.feed(text.charAt(i), 1);
        }
        int marks = told.port();              // 1: the name, with INK 9
        int fed = told.feed(';', 1);          // 1: THE TAPE was used up
        int fault = told.port();              // -100: -100 less the place, from 0, of what can't stand there
        // end
        dueAnswers(1, marks, fed, fault);
        due("many bytes", bytes, text.length());
    }

    /** The i-th example is README.md's, and what its lines say behind // is what they answered. */
    private void dueAnswers(int i, int... answers) {
        List<String> there = between(readme, "```java\n", "```");
        List<String> here = between(own, "// example\n", "// end");
        if (i >= there.size() || i >= here.size() || !lines(there.get(i)).equals(lines(here.get(i)))) {
            complain("example " + (i + 1) + " is not the one of ReadmeTest");
            return;
        }
        Matcher says = Pattern.compile("// (-?\\d+):").matcher(there.get(i));
        int said = 0;
        while (says.find()) {
            long due = Integer.parseInt(says.group(1));
            due("line " + (said + 1) + " of example " + (i + 1), said < answers.length ? answers[said] : due + 1, due);
            said++;
        }
        due("the lines of example " + (i + 1) + " that say an answer", said, answers.length);
    }

    private static List<String> between(String text, String from, String to) {
        List<String> parts = new ArrayList<>();
        int start = text.indexOf(from);
        while (start >= 0) {
            int end = text.indexOf(to, start + from.length());
            if (end < 0) break;
            parts.add(text.substring(start + from.length(), end));
            start = text.indexOf(from, end);
        }
        return parts;
    }

    private static List<String> lines(String text) {
        return text.lines().map(String::strip).filter(line -> !line.isEmpty()).toList();
    }

    // ---- the calls

    /** By name: the call with its arguments, and the refusals that are told of it. */
    private Map<String, String[]> callsTold() {
        Map<String, String[]> told = new TreeMap<>();
        Matcher call = CALL.matcher(readme);
        while (call.find()) {
            String[] was = told.put(call.group(1), new String[] {call.group(2), call.group(3)});
            if (was != null) complain(call.group(1) + "() is told twice");
        }
        return told;
    }

    private void everyCall() {
        Map<String, String[]> told = callsTold();
        for (Method m : TravelMarks.class.getDeclaredMethods()) {
            if (!Modifier.isPublic(m.getModifiers())) continue;
            String[] call = told.remove(m.getName());
            if (call == null) {
                complain(m.getName() + "() is not told");
                continue;
            }
            int arguments = call[0].isEmpty() ? 0 : call[0].split(",").length;
            due("the number of arguments of " + m.getName() + "()", arguments, m.getParameterCount());
            dueRefusals(m.getName(), refusals(call[1]));
        }
        if (!told.isEmpty()) complain("these are no calls: " + told.keySet());
    }

    private static List<String> refusals(String text) {
        List<String> found = new ArrayList<>();
        Matcher refusal = REFUSAL.matcher(text);
        while (refusal.find()) {
            found.add(refusal.group());
        }
        return found;
    }

    /** The refusals are those of its promise, in the same order; act()'s one is told in the Terms. */
    private static void dueRefusals(String name, List<String> told) {
        for (int number = 1; number <= PROMISES; number++) {
            String promise = paragraph(number);
            if (!promise.startsWith("Promise " + number + ": " + name + " ")) continue;
            List<String> due = name.equals("act") ? List.of("-15") : refusals(promise);
            if (!told.equals(due)) complain("the refusals of " + name + "() are told as " + told + ", due are " + due);
            return;
        }
        complain("the document has no promise of " + name + "()");
    }

    private void everyRefusal() {
        for (String refusal : new String[] {"-1 `BAD`", "-2 `FULL`", "-3 `NONE`", "-9", "-11", "-12", "-13", "-14", "-15"}) {
            if (!readme.contains("\n| " + refusal + " | ")) complain("what " + refusal + " is, is not told");
        }
    }

    private void everyTest() throws IOException {
        TreeSet<String> tests = new TreeSet<>();
        try (var files = Files.list(Path.of("src/test/java"))) {
            files.map(f -> f.getFileName().toString().replace(".java", "")).forEach(tests::add);
        }
        for (String test : tests) {
            if (!readme.contains("`" + test + "`")) complain(test + " is not told");
        }
        if (!readme.contains("\n.ci/run\n")) complain("the one command that runs all tests is not told");
    }

    public static void main(String[] args) throws IOException {
        promise = PAGE;
        ReadmeTest test = new ReadmeTest();
        test.firstExample();
        test.secondExample();
        test.everyCall();
        test.everyRefusal();
        test.everyTest();
        finish("README.md is as told");
    }
}
