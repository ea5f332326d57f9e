import java.io.IOException;
import java.lang.reflect.Constructor;
import java.lang.reflect.Field;
import java.lang.reflect.Method;
import java.lang.reflect.Modifier;
import java.nio.charset.StandardCharsets;
import java.nio.file.Files;
import java.nio.file.Path;
import java.util.Arrays;
import java.util.Map;
import java.util.Set;
import java.util.TreeMap;
import java.util.TreeSet;
import java.util.regex.Matcher;
import java.util.regex.Pattern;

/** The public face that the document names, and what of the rules of LANGUAGE.md can be seen from outside. */
public final class FaceTest {
    private static final String FACE = """
        int feed(long, int)
        int port()
        int set(int, int)
        int lawOf(int)
        int mark(int, int, int)
        int of(int, int)
        int mind(int, int, int)
        int move(int, int)
        int touch(int, int, int)
        int part(int)
        int touchOf(int, int)
        int who(int, int)
        int hours(int)
        int seed(int)
        int hour()
        int stir(int)
        int state(int)
        int where(int, int)
        int comes(int, int)
        int bare(int)
        int dry()
        int kindFor(int, int, int)
        int inkFor(int, int, int)
        int touchFor(int, int, int)
        int apartFor(int, int, int)
        int fits(int, int, int)
        long odds(int, int, int)
        long hope(int, int)
        int prove(int, int)
        int row(int, int)
        int alterRow(int, int, int)
        int judge(int)
        int minds(int, int, int, int)
        int sheet(int, int, int)
        int put(int, int, int)
        int item(int, int, int)
        int shelf(int, int, int)
        int taken(int, int)
        int act(int, int, int)
        int trace(int)
        int many(int)
        int keep()
        int again()
        """;
    private static final Set<String> CONSTANTS = Set.of("BAD", "FULL", "NONE");
    private static final Path SOURCE = Path.of("src/main/java/TravelMarks.java");

    private static int wrong = 0;

    private static void must(boolean holds, String what) {
        if (!holds) {
            wrong++;
            System.out.println(what);
        }
    }

    private static void face() {
        Set<String> wanted = new TreeSet<>(Arrays.asList(FACE.split("\n")));
        Set<String> there = new TreeSet<>();
        Set<String> names = new TreeSet<>();
        for (Method m : TravelMarks.class.getDeclaredMethods()) {
            if (Modifier.isPrivate(m.getModifiers())) continue;
            must(m.getModifiers() == Modifier.PUBLIC, m.getName() + " is not just public");
            names.add(m.getName());
            there.add(m.getReturnType() + " " + m.getName() + Arrays.toString(m.getParameterTypes())
                .replace('[', '(').replace(']', ')'));
        }
        must(there.equals(wanted), "the methods are " + there + ", not " + wanted);
        for (Constructor<?> c : TravelMarks.class.getDeclaredConstructors()) {
            must(c.getModifiers() == Modifier.PUBLIC && c.getParameterCount() == 0, "a constructor more: " + c);
        }
        for (Field f : TravelMarks.class.getDeclaredFields()) {
            boolean named = CONSTANTS.contains(f.getName());
            must(Modifier.isPublic(f.getModifiers()) == named, "the field " + f.getName());
            must(named || Modifier.isPrivate(f.getModifiers()), "the field " + f.getName() + " is not private");
        }
        must(Modifier.toString(TravelMarks.class.getModifiers()).equals("public final"), "the class is public and final");
        privateNames(TravelMarks.class, names);
        must(TravelMarks.class.getDeclaredClasses().length < 12, "too many classes");
        for (Class<?> c : TravelMarks.class.getDeclaredClasses()) {
            must(Modifier.isStatic(c.getModifiers()), c + " is not static");
            must(c.getDeclaredClasses().length == 0, c + " has classes inside");
            privateNames(c, names);
        }
    }

    private static void privateNames(Class<?> c, Set<String> names) {
        int fields = 0;
        for (Field f : c.getDeclaredFields()) {
            must(!Modifier.isStatic(f.getModifiers()) || Modifier.isFinal(f.getModifiers()), f + " is static and not final");
            fields += Modifier.isStatic(f.getModifiers()) ? 0 : 1;
        }
        must(fields <= 20, c + " has too many fields");
        for (Method m : c.getDeclaredMethods()) {
            boolean own = c == TravelMarks.class && !Modifier.isPrivate(m.getModifiers());
            must(own || !names.contains(m.getName()), m + " bears the name of a public one");
            must(m.getParameterCount() <= 7, m + " takes too many parameters");
        }
    }

    private static void source() throws IOException {
        String text = Files.readString(SOURCE, StandardCharsets.UTF_8);
        must(text.chars().allMatch(c -> c == '\n' || c >= 32 && c < 127), "a sign that is not plain");
        String code = text.replaceAll("(?s)/\\*.*?\\*/", "").replaceAll("//[^\n]*", "").replaceAll("\"[^\"\n]*\"", "\"\"");
        String[] none = {
            "throws?", "try", "catch", "finally", "synchronized", "assert", "import", "package", "var", "Object",
            "equals", "hashCode", "toString", "native", "volatile", "transient", "protected",
        };
        for (String word : none) {
            must(!Pattern.compile("\\b" + word + "\\b").matcher(code).find(), "there is " + word);
        }
        must(!code.contains("->") && !code.contains("::") && !code.contains("@"), "there is ->, :: or @");
        Matcher library = Pattern.compile("\\b([A-Z][a-z]\\w*)\\.(\\w+)\\(").matcher(code);
        Set<String> allowed = Set.of("Math.max", "Math.min", "Math.floorMod", "Integer.bitCount", "System.arraycopy");
        while (library.find()) {
            String call = library.group(1) + "." + library.group(2);
            must(allowed.contains(call), "the library's " + call);
        }
        methodsAreShort(text);
        must(!Pattern.compile("\\bstatic\\s*\\{").matcher(code).find(), "a static initialiser block");
        nothingIsMadeByCalls(code);
        callsAreNotDeep(code);
    }

    /** Rule 12 and the room that all calls share: what is made is made with the object, by its fields and constructor. */
    private static void nothingIsMadeByCalls(String code) {
        Pattern made = Pattern.compile("^ +(private )?final [\\w\\[\\]]+ \\w+ = new .*;$|^ +(sheets|shelves)\\[i\\] = new \\w+\\(\\);$");
        for (String line : code.split("\n")) {
            must(!Pattern.compile("\\bnew\\b").matcher(line).find() || made.matcher(line).matches(), "made by a call: " + line.strip());
        }
    }

    /** Rules 8 and 11, by the names of the methods: one alone calls itself, and the others go at most eight deep. */
    private static void callsAreNotDeep(String code) {
        Map<String, Set<String>> calls = new TreeMap<>();
        Matcher method = Pattern.compile("(?ms)^( {4,8})(?:\\w+ )*?\\w+ (\\w+)\\([^()]*\\) \\{\\n(.*?)^\\1\\}").matcher(code);
        for (int at = 0; method.find(at); at = method.start(3)) {
            Set<String> called = calls.computeIfAbsent(method.group(2), name -> new TreeSet<>());
            Matcher call = Pattern.compile("\\b([a-z]\\w*)\\(").matcher(method.group(3));
            while (call.find()) {
                called.add(call.group(1));
            }
        }
        must(calls.size() > 100, "the methods are not seen: " + calls.keySet());
        for (String name : calls.keySet()) {
            boolean itself = calls.get(name).remove(name);
            must(itself == name.equals("run"), name + "() calls itself");
        }
        for (String name : calls.keySet()) {
            must(depth(calls, name, 0) <= 8, name + "() goes more than eight calls deep");
        }
    }

    /** How many calls stand open at most below and with this one; methods that call one another have no end, but a bound. */
    private static int depth(Map<String, Set<String>> calls, String name, int above) {
        int below = 0;
        if (above > 8) return 1;
        for (String called : calls.get(name)) {
            if (calls.containsKey(called)) below = Math.max(below, depth(calls, called, above + 1));
        }
        return 1 + below;
    }

    private static void methodsAreShort(String text) {
        String[] lines = text.split("\n");
        for (int i = 0; i < lines.length; i++) {
            Matcher start = Pattern.compile("^( +)[^ */].*\\) \\{$").matcher(lines[i]);
            if (!start.find()) continue;
            int end = i;
            while (end < lines.length && !lines[end].equals(start.group(1) + "}") && !lines[end].startsWith(start.group(1) + "} else")) {
                end++;
            }
            must(end - i <= 60, "line " + (i + 1) + " begins a long part");
        }
    }

    public static void main(String[] args) throws IOException {
        face();
        source();
        System.out.println(wrong == 0 ? "the face is as told" : wrong + " things are not as told");
        if (wrong != 0) System.exit(1);
    }
}
