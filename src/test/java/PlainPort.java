import java.math.BigInteger;
import java.util.ArrayDeque;
import java.util.ArrayList;
import java.util.Arrays;
import java.util.Comparator;
import java.util.List;
import java.util.TreeSet;
import java.util.regex.Matcher;
import java.util.regex.Pattern;

/**
 * The document once more, written another way: kinds are Java's own classes with Java's own super calls, the host's
 * refusals are what Java throws, the text is cut by a regular expression, what is tried is tried on deep copies.
 * ModelTest holds the program against it.
 */
final class PlainPort {
    static final int BAD = -1, FULL = -2, NONE = -3;

    // ---- kinds

    static class Mark implements Cloneable {
        int ink, on, number;
        List<Integer> trace = new ArrayList<>();

        int kind() { return 0; }
        boolean goes(World w, int to) { return ink > 0; }
        int fades(World w) { return w.fade; }
        int itches(int x) { trace.add(10); return x * 3 + number * 2; }
        int crawls(int x) { trace.add(11); return itches(x) - on; }
        int parts(int x) { trace.add(12); return x / (on - number); }
        int bites(int x) { trace.add(13); return crawls(x) ^ 120; }
        Mark copy() {
            try {
                return (Mark) clone();
            } catch (CloneNotSupportedException e) {
                throw new IllegalStateException(e);
            }
        }
    }

    static class Ship extends Mark {
        @Override int kind() { return 1; }
        @Override boolean goes(World w, int to) {
            return super.goes(w, to) && w.marks.stream().filter(m -> m.on == to).count() < w.load;
        }
        @Override int fades(World w) { return super.fades(w) + 1; }
        @Override int crawls(int x) { trace.add(20); return super.crawls(x) * 4; }
    }

    static class Snake extends Mark {
        @Override int kind() { return 2; }
        @Override boolean goes(World w, int to) { return super.goes(w, to) && to > on; }
        @Override int fades(World w) { return super.fades(w) - 2; }
        @Override int itches(int x) { trace.add(30); return 0 - super.itches(x); }
        @Override int bites(int x) { trace.add(31); return super.bites(x) + parts(number); }
    }

    static class Anchor extends Ship {
        @Override int kind() { return 3; }
        @Override boolean goes(World w, int to) { return super.goes(w, to) && w.hour % 2 == 0; }
        @Override int fades(World w) { return super.fades(w) * 2; }
        @Override int parts(int x) { trace.add(50); return super.parts(x * 2) - 3; }
        @Override int itches(int x) { trace.add(51); return super.itches(x) + on; }
    }

    static class Dragon extends Snake {
        @Override int kind() { return 4; }
        @Override boolean goes(World w, int to) { return super.goes(w, to) || ink >= w.tide; }
        @Override int fades(World w) { return super.fades(w) - w.tide; }
        @Override int itches(int x) { trace.add(40); return super.itches(x) ^ 9; }
        @Override int crawls(int x) { trace.add(41); return super.crawls(x) + itches(on); }
    }

    static class Name extends Mark {
        @Override int kind() { return 5; }
        @Override boolean goes(World w, int to) {
            return super.goes(w, to) && w.marks.stream().noneMatch(m -> m.on == to && m instanceof Name);
        }
        @Override int fades(World w) { return 0; }
        @Override int bites(int x) { trace.add(60); return 7 - super.bites(x); }
        @Override int parts(int x) { trace.add(61); return super.parts(x) - itches(number); }
    }

    static final List<Class<? extends Mark>> KINDS =
        List.of(Mark.class, Ship.class, Snake.class, Anchor.class, Dragon.class, Name.class);
    static final List<String> KIND_NAMES = List.of("mark", "ship", "snake", "anchor", "dragon", "name");

    static Mark made(int kind, int ink, int on, int number) {
        Mark m = switch (kind) {
            case 0 -> new Mark();
            case 1 -> new Ship();
            case 2 -> new Snake();
            case 3 -> new Anchor();
            case 4 -> new Dragon();
            default -> new Name();
        };
        m.ink = ink;
        m.on = on;
        m.number = number;
        return m;
    }

    // ---- how all is

    static final class World {
        int load = 3, fade = 1, tide = 5, chance = 20, hour = 0, z = 1;
        List<Mark> marks = new ArrayList<>();
        int[][] touches = new int[6][];

        World copy() {
            World w = new World();
            w.load = load;
            w.fade = fade;
            w.tide = tide;
            w.chance = chance;
            w.hour = hour;
            w.z = z;
            for (Mark m : marks) {
                w.marks.add(m.copy());
            }
            w.touches = touches.clone();
            return w;
        }

        TreeSet<Integer> goers(int one, int other) {
            TreeSet<Integer> goers = new TreeSet<>();
            for (Mark m : marks) {
                if (m.on == one && m.goes(this, other) || m.on == other && m.goes(this, one)) {
                    goers.add(m.number);
                }
            }
            return goers;
        }

        TreeSet<Integer> meet(int one, int other) {
            TreeSet<Integer> goers = goers(one, other);
            for (int g : goers) {
                Mark m = marks.get(g);
                m.on = one + other - m.on;
                m.ink = Math.min(99, Math.max(0, m.ink - m.fades(this)));
            }
            return goers;
        }

        TreeSet<Integer> pass() {
            int[] t = touches[hour % 6];
            TreeSet<Integer> gone = t == null ? new TreeSet<>() : meet(t[0], t[1]);
            hour++;
            return gone;
        }

        int draw() {
            z = (int) (z * 1103515245L + 12345L);
            return (int) ((z & 0xffffffffL) >> 16);
        }

        void passByDraws() {
            int one = draw() % 8;
            if (draw() % 100 < chance) {
                int other = draw() % 8;
                if (one != other) {
                    meet(one, other);
                }
            }
            pass();
        }

        int marked() {
            int set = 0;
            for (Mark m : marks) {
                set |= 1 << m.on;
            }
            return set;
        }

        int comes(int mark, int who, int n) {
            World w = copy();
            for (int h = 0; h <= n; h++, w.pass()) {
                if (w.marks.get(mark).on == who) {
                    return h;
                }
            }
            return NONE;
        }

        int circle(int who) {
            TreeSet<Integer> seen = new TreeSet<>(List.of(who));
            ArrayDeque<Integer> todo = new ArrayDeque<>(List.of(who));
            while (!todo.isEmpty()) {
                int p = todo.remove();
                for (int[] t : touches) {
                    if (t != null && (t[0] == p || t[1] == p) && seen.add(t[0] + t[1] - p)) {
                        todo.add(t[0] + t[1] - p);
                    }
                }
            }
            return seen.stream().mapToInt(p -> 1 << p).sum();
        }
    }

    World w = new World();
    World kept = null;
    byte[] tape = new byte[0];
    List<int[]> rows = new ArrayList<>();
    Object[] sheets = new Object[4];
    Object[] shelves = new Object[4];
    List<Integer> trace = new ArrayList<>();

    static boolean in(long v, long lo, long hi) {
        return lo <= v && v <= hi;
    }

    boolean isMark(int m) {
        return in(m, 0, w.marks.size() - 1);
    }

    // ---- the calls

    int feed(long eight, int n) {
        if (!in(n, 1, 8)) return BAD;
        if (tape.length + n > 200) return FULL;
        byte[] more = Arrays.copyOf(tape, tape.length + n);
        for (int i = 0; i < n; i++) {
            more[tape.length + i] = (byte) (eight >> (8 * i) & 255);
        }
        tape = more;
        return tape.length;
    }

    static final class Fault extends RuntimeException {
        private static final long serialVersionUID = 1;
        final int place;
        Fault(int place) { super(null, null, false, false); this.place = place; }
    }

    static final class Words {
        final List<String> words = new ArrayList<>();
        final List<Integer> places = new ArrayList<>();
        int next = 0;

        Words(byte[] bytes) {
            String text = new String(bytes, java.nio.charset.StandardCharsets.ISO_8859_1);
            Matcher m = Pattern.compile("[a-z]+|[0-9]+|[^ ]", Pattern.DOTALL).matcher(text);
            while (m.find()) {
                words.add(m.group());
                places.add(m.start());
            }
            words.add("");
            places.add(bytes.length);
        }

        String peek() { return words.get(next); }
        Fault fault() { return new Fault(places.get(next)); }
        void word(String... wanted) {
            if (!Arrays.asList(wanted).contains(peek())) throw fault();
            next++;
        }
        int number(int lo, int hi, int not) {
            String s = peek();
            if (!s.matches("[0-9]{1,3}")) throw fault();
            int v = Integer.parseInt(s);
            if (!in(v, lo, hi) || v == not) throw fault();
            next++;
            return v;
        }
    }

    static World read(byte[] bytes) {
        World w = new World();
        Words t = new Words(bytes);
        while (!t.peek().isEmpty()) {
            String name = t.peek();
            if (KIND_NAMES.contains(name)) {
                if (w.marks.size() == 8) throw t.fault();
                t.word(name);
                t.word("on");
                int on = t.number(0, 7, -1);
                int ink = 9;
                if (t.peek().equals("ink")) {
                    t.word("ink");
                    ink = t.number(0, 99, -1);
                }
                t.word(";");
                w.marks.add(made(KIND_NAMES.indexOf(name), ink, on, w.marks.size()));
                continue;
            }
            t.word("touch", "load", "fade", "tide", "chance");
            switch (name) {
                case "touch" -> {
                    int rest = t.number(0, 5, -1);
                    t.word(":");
                    int one = t.number(0, 7, -1);
                    t.word("with");
                    int other = t.number(0, 7, one);
                    w.touches[rest] = new int[] {one, other};
                }
                case "load" -> w.load = t.number(1, 8, -1);
                case "fade" -> w.fade = t.number(0, 9, -1);
                case "tide" -> w.tide = t.number(0, 9, -1);
                default -> w.chance = t.number(0, 99, -1);
            }
            t.word(";");
        }
        return w;
    }

    int port() {
        byte[] text = tape;
        tape = new byte[0];
        try {
            World read = read(text);
            read.z = w.z;
            w = read;
            rows.clear();
            return w.marks.size();
        } catch (Fault f) {
            return -100 - f.place;
        }
    }

    int set(int law, int v) {
        int was;
        switch (law) {
            case 0: if (!in(v, 1, 8)) return BAD; was = w.load; w.load = v; return was;
            case 1: if (!in(v, 0, 9)) return BAD; was = w.fade; w.fade = v; return was;
            case 2: if (!in(v, 0, 9)) return BAD; was = w.tide; w.tide = v; return was;
            case 3: if (!in(v, 0, 99)) return BAD; was = w.chance; w.chance = v; return was;
            default: return BAD;
        }
    }

    int lawOf(int law) {
        return law == 0 ? w.load : law == 1 ? w.fade : law == 2 ? w.tide : law == 3 ? w.chance : BAD;
    }

    int mark(int kind, int ink, int who) {
        if (!in(kind, 0, 5) || !in(ink, 0, 99) || !in(who, 0, 7)) return BAD;
        if (w.marks.size() == 8) return FULL;
        w.marks.add(made(kind, ink, who, w.marks.size()));
        return w.marks.size() - 1;
    }

    int of(int mark, int what) {
        if (!isMark(mark) || !in(what, 0, 4)) return BAD;
        Mark m = w.marks.get(mark);
        int[] t = w.touches[w.hour % 6];
        return switch (what) {
            case 0 -> m.kind();
            case 1 -> m.ink;
            case 2 -> m.on;
            case 3 -> 1000 + m.fades(w);
            default -> t != null && w.goers(t[0], t[1]).contains(mark) ? 1 : 0;
        };
    }

    int mind(int mark, int kind, int ink) {
        if (!isMark(mark) || !in(kind, 0, 5) || !in(ink, 0, 99)) return BAD;
        Mark m = w.marks.get(mark);
        w.marks.set(mark, made(kind, ink, m.on, mark));
        return m.kind();
    }

    int move(int mark, int who) {
        if (!isMark(mark) || !in(who, 0, 7)) return BAD;
        int was = w.marks.get(mark).on;
        w.marks.get(mark).on = who;
        return was;
    }

    int touch(int rest, int one, int other) {
        if (!in(rest, 0, 5) || !in(one, 0, 7) || !in(other, 0, 7) || one == other) return BAD;
        w.touches[rest] = new int[] {one, other};
        return 1;
    }

    int part(int rest) {
        if (!in(rest, 0, 5)) return BAD;
        int any = w.touches[rest] == null ? 0 : 1;
        w.touches[rest] = null;
        return any;
    }

    int touchOf(int rest, int what) {
        if (!in(rest, 0, 5) || !in(what, 0, 1)) return BAD;
        return w.touches[rest] == null ? NONE : w.touches[rest][what];
    }

    int who(int who, int what) {
        if (!in(who, 0, 7) || !in(what, 0, 1)) return BAD;
        if (what == 1) return w.circle(who);
        return w.marks.stream().filter(m -> m.on == who).mapToInt(m -> 1 << m.number).sum();
    }

    int hours(int n) {
        if (!in(n, 1, 60)) return BAD;
        for (int i = 0; i < n; i++) {
            w.pass();
        }
        return Integer.bitCount(w.marked());
    }

    int seed(int v) {
        int was = w.z;
        w.z = v;
        return was;
    }

    int hour() {
        w.passByDraws();
        return Integer.bitCount(w.marked());
    }

    static List<Integer> places(World w) {
        return w.marks.stream().map(m -> m.on).toList();
    }

    int stir(int n) {
        if (!in(n, 1, 30)) return BAD;
        World calm = w.copy();
        calm.pass();
        int z = w.z;
        int count = 0;
        for (int i = 0; i < n; i++) {
            World t = w.copy();
            t.z = z;
            t.passByDraws();
            z = t.z;
            count += places(t).equals(places(calm)) ? 0 : 1;
        }
        return count;
    }

    int state(int what) {
        return switch (what) {
            case 0 -> w.hour;
            case 1 -> w.marks.stream().mapToInt(m -> m.ink).sum();
            case 2 -> w.marked();
            case 3 -> {
                TreeSet<Integer> circles = new TreeSet<>();
                for (int p = 0; p < 8; p++) {
                    circles.add(w.circle(p));
                }
                yield circles.size();
            }
            case 4 -> w.marks.stream().filter(m -> m.ink == 0).mapToInt(m -> 1 << m.number).sum();
            case 5 -> {
                int[] on = new int[8];
                w.marks.forEach(m -> on[m.on]++);
                yield Arrays.stream(on).max().getAsInt();
            }
            default -> BAD;
        };
    }

    int where(int mark, int n) {
        if (!isMark(mark) || !in(n, 0, 60)) return BAD;
        World t = w.copy();
        for (int i = 0; i < n; i++) {
            t.pass();
        }
        return t.marks.get(mark).on;
    }

    int comes(int mark, int who) {
        if (!isMark(mark) || !in(who, 0, 7)) return BAD;
        return w.comes(mark, who, 60);
    }

    int bare(int who) {
        if (!in(who, 0, 7)) return BAD;
        World t = w.copy();
        for (int h = 0; h <= 60; h++, t.pass()) {
            if ((t.marked() >> who & 1) == 0) return h;
        }
        return NONE;
    }

    int dry() {
        World t = w.copy();
        for (int h = 0; h <= 60; h++, t.pass()) {
            if (t.marks.stream().allMatch(m -> m.ink == 0)) return h;
        }
        return NONE;
    }

    int kindFor(int mark, int who, int n) {
        if (!isMark(mark) || !in(who, 0, 7) || !in(n, 0, 30)) return BAD;
        List<int[]> tries = new ArrayList<>();
        for (int kind = 0; kind < 6; kind++) {
            World t = w.copy();
            t.marks.set(mark, made(kind, t.marks.get(mark).ink, t.marks.get(mark).on, mark));
            int hours = t.comes(mark, who, n);
            tries.add(new int[] {hours == NONE ? 1000 : hours, kind});
        }
        tries.sort(Comparator.<int[]>comparingInt(t -> t[0]).thenComparingInt(t -> t[1]));
        return tries.get(0)[1];
    }

    int inkFor(int mark, int who, int n) {
        if (!isMark(mark) || !in(who, 0, 7) || !in(n, 0, 30)) return BAD;
        int least = NONE;
        for (int ink = 99; ink >= 0; ink--) {
            World t = w.copy();
            t.marks.get(mark).ink = ink;
            if (t.comes(mark, who, n) != NONE) least = ink;
        }
        return least;
    }

    int touchFor(int mark, int who, int n) {
        if (!isMark(mark) || !in(who, 0, 7) || !in(n, 0, 30)) return BAD;
        int asIs = w.comes(mark, who, 60);
        List<int[]> tries = new ArrayList<>();
        for (int other = 0; other < 8; other++) {
            for (int one = 0; one < other; one++) {
                for (int rest = 0; rest < 6; rest++) {
                    World t = w.copy();
                    t.touches[rest] = new int[] {other, one};
                    int hours = t.comes(mark, who, n);
                    if (hours != NONE && (asIs == NONE || hours < asIs)) {
                        tries.add(new int[] {hours, rest * 100 + one * 10 + other});
                    }
                }
            }
        }
        tries.sort(Comparator.<int[]>comparingInt(t -> t[0]).thenComparingInt(t -> t[1]));
        return tries.isEmpty() ? NONE : tries.get(0)[1];
    }

    int apartFor(int mark, int who, int n) {
        if (!isMark(mark) || !in(who, 0, 7) || !in(n, 0, 30)) return BAD;
        int best = NONE;
        for (int set = 63; set >= 0; set--) {
            World t = w.copy();
            for (int r = 0; r < 6; r++) {
                if ((set & 1 << r) != 0) t.touches[r] = null;
            }
            boolean better = best == NONE || Integer.bitCount(set) <= Integer.bitCount(best);
            if (better && t.comes(mark, who, n) == NONE) best = set;
        }
        return best;
    }

    static long[] numbers(Object sheet) {
        long[] all = new long[java.lang.reflect.Array.getLength(sheet)];
        for (int i = 0; i < all.length; i++) {
            all[i] = java.lang.reflect.Array.getLong(sheet, i);
        }
        return all;
    }

    int fits(int sheet, int mark, int what) {
        if (!in(sheet, 0, 3) || !isMark(mark) || !in(what, 0, 1)) return BAD;
        if (sheets[sheet] == null) return -11;
        List<Integer> fit = new ArrayList<>();
        for (int p = 0; p < 8; p++) {
            World t = w.copy();
            t.marks.get(mark).on = p;
            boolean ok = true;
            for (long v : numbers(sheets[sheet])) {
                t.pass();
                ok &= v == -1 || v == t.marks.get(mark).on;
            }
            if (ok) fit.add(p);
        }
        return what == 0 ? fit.size() : fit.isEmpty() ? NONE : fit.get(0);
    }

    static long part(BigInteger above, BigInteger below, int part) {
        BigInteger d = above.gcd(below);
        return (part == 0 ? above : below).divide(d).longValueExact();
    }

    long odds(int n, int k, int part) {
        if (!in(n, 0, 8) || !in(k, 0, n) || !in(part, 0, 1)) return BAD;
        BigInteger above = BigInteger.ZERO;
        for (int nights = 0; nights < 1 << n; nights++) {
            if (Integer.bitCount(nights) != k) continue;
            BigInteger way = BigInteger.ONE;
            for (int i = 0; i < n; i++) {
                way = way.multiply(BigInteger.valueOf((nights & 1 << i) != 0 ? w.chance : 100 - w.chance));
            }
            above = above.add(way);
        }
        return part(above, BigInteger.valueOf(100).pow(n), part);
    }

    long hope(int n, int part) {
        if (!in(n, 0, 99) || !in(part, 0, 1)) return BAD;
        return part(BigInteger.valueOf(n * w.chance), BigInteger.valueOf(100), part);
    }

    List<int[]> rowsOf(int mark, int n) {
        List<int[]> all = new ArrayList<>();
        World t = w.copy();
        for (int i = 0; i < n; i++) {
            int went = t.pass().contains(mark) ? 1 : 0;
            all.add(new int[] {t.marks.get(mark).on, t.marks.get(mark).ink, went});
        }
        return all;
    }

    int prove(int mark, int n) {
        if (!isMark(mark) || !in(n, 1, 10)) return BAD;
        rows = rowsOf(mark, n);
        return n;
    }

    int row(int i, int what) {
        return in(i, 0, rows.size() - 1) && in(what, 0, 2) ? rows.get(i)[what] : -9;
    }

    int alterRow(int i, int what, int v) {
        int was = row(i, what);
        if (in(i, 0, rows.size() - 1) && in(what, 0, 2)) rows.get(i)[what] = v;
        return was;
    }

    int judge(int mark) {
        if (!isMark(mark)) return BAD;
        List<int[]> must = rowsOf(mark, rows.size());
        for (int i = 0; i < must.size(); i++) {
            if (!Arrays.equals(must.get(i), rows.get(i))) return i + 1;
        }
        return 0;
    }

    int minds(int sheet, int i, int mark, int n) {
        if (!in(sheet, 0, 3) || !isMark(mark) || !in(n, 0, 8) || mark + n > w.marks.size()) return BAD;
        try {
            byte[] got = new byte[n];
            System.arraycopy(sheets[sheet], i, got, 0, n);
            for (int k = 0; k < n; k++) {
                w.marks.get(mark + k).ink = Math.min(99, Math.max(0, got[k]));
            }
            return n;
        } catch (NullPointerException e) {
            return -11;
        } catch (ArrayStoreException e) {
            return -13;
        } catch (IndexOutOfBoundsException e) {
            return -12;
        }
    }

    int sheet(int sheet, int sort, int n) {
        if (!in(sheet, 0, 3) || !in(sort, -1, 3) || sort != -1 && n > 40) return BAD;
        try {
            sheets[sheet] = switch (sort) {
                case -1 -> null;
                case 0 -> new byte[n];
                case 1 -> new short[n];
                case 2 -> new int[n];
                default -> new long[n];
            };
            return 1;
        } catch (NegativeArraySizeException e) {
            return -14;
        }
    }

    int put(int sheet, int i, int v) {
        if (!in(sheet, 0, 3)) return BAD;
        Object s = sheets[sheet];
        try {
            if (s instanceof byte[] b) b[i] = (byte) v;
            else if (s instanceof short[] h) h[i] = (short) v;
            else if (s instanceof int[] k) k[i] = v;
            else if (s instanceof long[] l) l[i] = v;
            else return -11;
            return 1;
        } catch (ArrayIndexOutOfBoundsException e) {
            return -12;
        }
    }

    int item(int sheet, int sort, int i) {
        if (!in(sheet, 0, 3) || !in(sort, 0, 3)) return BAD;
        if (sheets[sheet] == null) return -11;
        try {
            return switch (sort) {
                case 0 -> ((byte[]) sheets[sheet])[i];
                case 1 -> ((short[]) sheets[sheet])[i];
                case 2 -> ((int[]) sheets[sheet])[i];
                default -> (int) ((long[]) sheets[sheet])[i];
            };
        } catch (ClassCastException e) {
            return -13;
        } catch (ArrayIndexOutOfBoundsException e) {
            return -12;
        }
    }

    int shelf(int shelf, int what, int n) {
        if (!in(shelf, 0, 3) || !in(what, 0, 2)) return BAD;
        if (what == 0 && !isMark(n) || what == 1 && !in(n, 0, 3)) return BAD;
        shelves[shelf] = what == 0 ? (Object) n : what == 1 ? sheets[n] : null;
        return 1;
    }

    Object held(int shelf) {
        Object o = shelves[shelf];
        if (o instanceof Integer n) {
            return isMark(n) ? w.marks.get(n) : null;
        }
        return o;
    }

    int taken(int shelf, int as) {
        if (!in(shelf, 0, 3) || !in(as, 0, 5) && !in(as, 10, 13)) return BAD;
        Object o = held(shelf);
        if (o == null) return -11;
        try {
            return switch (as) {
                case 10 -> ((byte[]) o).length;
                case 11 -> ((short[]) o).length;
                case 12 -> ((int[]) o).length;
                case 13 -> ((long[]) o).length;
                default -> KINDS.get(as).cast(o).number;
            };
        } catch (ClassCastException e) {
            return -13;
        }
    }

    int act(int shelf, int act, int x) {
        trace = new ArrayList<>();
        if (!in(shelf, 0, 3) || !in(act, 0, 3) || !(held(shelf) instanceof Mark m)) return 0;
        m.trace = trace;
        try {
            return switch (act) {
                case 0 -> m.itches(x);
                case 1 -> m.crawls(x);
                case 2 -> m.parts(x);
                default -> m.bites(x);
            };
        } catch (ArithmeticException e) {
            return -15;
        }
    }

    int trace(int i) {
        return in(i, 0, Math.min(30, trace.size()) - 1) ? trace.get(i) : NONE;
    }

    int many(int what) {
        return switch (what) {
            case 0 -> w.marks.size();
            case 1 -> (int) w.marks.stream().filter(m -> m.ink > 0).count();
            case 2 -> Integer.bitCount(w.marked());
            case 3 -> (int) Arrays.stream(w.touches).filter(t -> t != null).count();
            case 4 -> rows.size();
            case 5 -> tape.length;
            case 6 -> Math.min(30, trace.size());
            default -> BAD;
        };
    }

    int keep() {
        kept = w.copy();
        return 1;
    }

    int again() {
        if (kept == null) return NONE;
        w = kept.copy();
        return w.marks.size();
    }
}
