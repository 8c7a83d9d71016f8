import java.util.ArrayList;
import java.util.HashMap;
import java.util.List;
import java.util.Map;
import java.util.function.IntPredicate;

/**
 * A second program by the document, as plain as can be and written apart from
 * the first: a THING is an object, a STREET is its text, rows of THINGS are
 * all listed. ModelTest holds the two against one another.
 */
final class Model {
    private static final String[] KINDS = {"THING", "GLOVE", "KEY", "LETTER", "BAIT", "TICKET", "TOLD"};

    private static final class Thing implements Cloneable {
        int number, kind, v, marks;
        int[] row = new int[4];

        Thing copy() {
            Thing t = new Thing();
            t.number = number;
            t.kind = kind;
            t.v = v;
            t.marks = marks;
            t.row = row.clone();
            return t;
        }
    }

    /** All that THE IMAGE has. */
    private static final class World {
        List<Thing> things = new ArrayList<>();
        List<Integer> had = new ArrayList<>();
        int day = 0;
        String street = null;
        List<int[]> seen = new ArrayList<>();
        List<int[]> week = new ArrayList<>();
        List<int[]> book = new ArrayList<>();

        World copy() {
            World w = new World();
            for (Thing t : things) w.things.add(t.copy());
            w.had.addAll(had);
            w.day = day;
            w.street = street;
            w.seen.addAll(seen);
            w.week.addAll(week);
            w.book.addAll(book);
            return w;
        }

        int bits() {
            int bits = 0;
            for (int t : had) bits |= 1 << t;
            return bits;
        }
    }

    private World world = new World();
    private World image = null;
    private final StringBuilder text = new StringBuilder();
    private int streets = 0;
    private List<Integer> trace = new ArrayList<>();
    private final long[][] tapes = new long[6][];
    private final int[] sorts = new int[6];

    // ---------------------------------------------------------------- streets

    /** The FAULT, or -1: by how far a machine that knows only states and how what is open was opened comes. */
    static int fault(String text) {
        // open: for each ( or ! that is open, which of the two; a ! closes behind its F
        List<Character> open = new ArrayList<>();
        String state = "clause";
        String word = "";
        int clauses = 0;
        for (int i = 0; i < text.length(); i++) {
            char c = text.charAt(i);
            boolean digit = c >= '0' && c <= '9';
            String next = null;
            if (state.equals("clause")) {
                for (String w : new String[] {"like", "mind", "need", "hold"}) {
                    if (w.startsWith(word + c)) next = w.equals(word + c) ? "worded" : "clause";
                }
                word += c;
            } else if (state.equals("worded")) {
                if (c == ' ') next = "n";
            } else if (state.equals("n")) {
                if (digit) next = "n1";
            } else if (state.equals("n1") || state.equals("n2")) {
                boolean wish = word.equals("like") || word.equals("mind");
                if (digit && state.equals("n1")) next = "n2";
                if (c == ' ' && wish) next = "F";
                if (c == ';' && !wish && clauses < 9) { next = "clause"; word = ""; clauses++; }
            } else if (state.equals("F")) {
                if ((c == '(' || c == '!') && open.size() < 4) { open.add(c); next = "F"; }
                if (c >= 'a' && c <= 'z' && "tkvmwd".indexOf(c) >= 0) next = "letter";
            } else if (state.equals("letter")) {
                if (c == '<' || c == '=' || c == '>') next = "number";
            } else if (state.equals("number")) {
                if (digit) next = "number1";
            } else {
                if (digit && state.equals("number1")) {
                    next = "behind";
                } else {
                    closeNots(open);
                    if (c == '&' || c == '|') next = "F";
                    if (c == ')' && open.size() > 0) { open.remove(open.size() - 1); next = "behind"; }
                    if (c == ';' && open.isEmpty() && clauses < 9) { next = "clause"; word = ""; clauses++; }
                }
            }
            if (next == null) return i;
            state = next;
        }
        closeNots(open);
        boolean whole = (state.equals("n1") || state.equals("n2")) && (word.equals("need") || word.equals("hold"))
            || (state.equals("number1") || state.equals("behind")) && open.isEmpty();
        return whole ? -1 : text.length();
    }

    private static void closeNots(List<Character> open) {
        while (!open.isEmpty() && open.get(open.size() - 1) == '!') open.remove(open.size() - 1);
    }

    /** Whether E holds; E is cut at its outermost | or &. */
    static boolean holds(String e, Map<Character, Integer> values) {
        for (char joint : new char[] {'|', '&'}) {
            int depth = 0;
            for (int i = 0; i < e.length(); i++) {
                char c = e.charAt(i);
                if (c == '(') depth++;
                if (c == ')') depth--;
                if (c == joint && depth == 0) {
                    boolean left = holds(e.substring(0, i), values);
                    boolean right = holds(e.substring(i + 1), values);
                    return joint == '|' ? left || right : left && right;
                }
            }
        }
        if (e.charAt(0) == '!') return !holds(e.substring(1), values);
        if (e.charAt(0) == '(') return holds(e.substring(1, e.length() - 1), values);
        int value = values.get(e.charAt(0));
        int number = Integer.parseInt(e.substring(2));
        return e.charAt(1) == '<' ? value < number : e.charAt(1) == '=' ? value == number : value > number;
    }

    private static int lastOf(World w, String word, int without) {
        int last = without;
        if (w.street != null) {
            for (String clause : w.street.split(";")) {
                String[] parts = clause.split(" ");
                if (parts[0].equals(word)) last = Integer.parseInt(parts[1]);
            }
        }
        return last;
    }

    private static int need(World w) {
        return lastOf(w, "need", 1);
    }

    private static int hold(World w) {
        return Math.max(1, lastOf(w, "hold", 6));
    }

    private static int many(int marks) {
        int many = 0;
        for (int b = 0; b < 8; b++) if ((marks & 1 << b) != 0) many++;
        return many;
    }

    private static int taste(World w, Thing t) {
        if (w.street == null) return 0;
        Map<Character, Integer> values = new HashMap<>();
        values.put('t', t.number);
        values.put('k', t.kind);
        values.put('v', t.v);
        values.put('m', many(t.marks));
        values.put('w', w.had.size());
        values.put('d', w.day % 10);
        int taste = 0;
        for (String clause : w.street.split(";")) {
            String[] parts = clause.split(" ");
            if (parts.length == 3 && holds(parts[2], values)) {
                taste += (parts[0].equals("like") ? 1 : -1) * Integer.parseInt(parts[1]);
            }
        }
        return taste;
    }

    private static int alike(World w, Thing t) {
        int alike = 0;
        for (int b = 0; b < 8; b++) {
            boolean there = false;
            for (int h : w.had) if ((w.things.get(h).marks & 1 << b) != 0) there = true;
            if (there && (t.marks & 1 << b) != 0) alike++;
        }
        return alike;
    }

    // ------------------------------------------------------------------- goes

    private static boolean goes(World w, int number) {
        if (w.had.contains(number)) return false;
        if (w.had.size() >= hold(w)) return false;
        if (w.had.isEmpty()) return true;
        return goesAs(w, w.things.get(number), KINDS[w.things.get(number).kind]);
    }

    private static boolean goesAs(World w, Thing t, String kind) {
        Thing newest = w.things.get(w.had.get(w.had.size() - 1));
        int sum = alike(w, t) + taste(w, t);
        switch (kind) {
            case "THING":
                return sum >= need(w);
            case "GLOVE": {
                boolean asMany = false;
                for (int h : w.had) asMany |= many(w.things.get(h).marks) == many(t.marks);
                return goesAs(w, t, "THING") && asMany;
            }
            case "KEY":
                return goesAs(w, t, "THING") && (t.marks & newest.marks) == 0;
            case "LETTER":
                return sum < need(w) && many(newest.marks) < many(t.marks);
            case "BAIT":
                return goesAs(w, t, "GLOVE") || t.v < w.had.size();
            case "TICKET":
                return w.day % 2 == 0 ? goesAs(w, t, "KEY") : goesAs(w, t, "THING");
            default:
                return goesAs(w, t, "LETTER") || w.had.size() == t.row[w.day % 4];
        }
    }

    private static void day(World w) {
        if (!w.things.isEmpty()) {
            int t = w.day % w.things.size();
            if (goes(w, t)) w.had.add(t);
        }
        w.day++;
    }

    private static World behind(World w, int days) {
        World then = w.copy();
        for (int i = 0; i < days; i++) day(then);
        return then;
    }

    // ------------------------------------------------------------- rows of all

    /** All rows of THINGS that can be had, one behind the other; without those that a longer one begins with, too. */
    private static void rows(World w, List<Integer> row, List<List<Integer>> all) {
        all.add(new ArrayList<>(row));
        for (int t = 0; t < w.things.size(); t++) {
            if (goes(w, t)) {
                World next = w.copy();
                next.had.add(t);
                row.add(t);
                rows(next, row, all);
                row.remove(row.size() - 1);
            }
        }
    }

    private static boolean isBefore(List<Integer> a, List<Integer> b) {
        for (int i = 0; i < a.size(); i++) {
            if (!a.get(i).equals(b.get(i))) return a.get(i) < b.get(i);
        }
        return false;
    }

    private static List<Integer> most(World w) {
        List<List<Integer>> all = new ArrayList<>();
        rows(w, new ArrayList<>(), all);
        List<Integer> best = new ArrayList<>();
        for (List<Integer> row : all) {
            if (row.size() > best.size() || row.size() == best.size() && isBefore(row, best)) best = row;
        }
        return best;
    }

    // --------------------------------------------------------------- the face

    private boolean no(int t) {
        return t < 0 || t >= world.things.size();
    }

    int thing(int kind, int v, int marks) {
        if (kind < 0 || kind > 6) return -1;
        if (v < 0 || v > 9) return -2;
        if (marks < 0 || marks > 255) return -2;
        if (world.things.size() == 6) return -4;
        Thing t = new Thing();
        t.number = world.things.size();
        t.kind = kind;
        t.v = v;
        t.marks = marks;
        world.things.add(t);
        return t.number;
    }

    int of(int thing, int what) {
        if (no(thing) || what < 0 || what > 6) return -1001;
        Thing t = world.things.get(thing);
        int at = world.had.indexOf(thing);
        return new int[] {t.kind, t.v, t.marks, at < 0 ? -5 : at, taste(world, t), alike(world, t),
            goes(world, thing) ? 1 : 0}[what];
    }

    int mark(int thing, int n) {
        if (no(thing)) return -1;
        if (n < 0 || n > 255) return -2;
        int was = world.things.get(thing).marks;
        world.things.get(thing).marks = n;
        return was;
    }

    int row(int thing, int part, int n) {
        if (no(thing) || part < 0 || part > 3) return -1;
        if (n < 0 || n > 9) return -2;
        if (world.things.get(thing).kind != 6) return -3;
        int was = world.things.get(thing).row[part];
        world.things.get(thing).row[part] = n;
        return was;
    }

    int take(int thing) {
        if (no(thing)) return -1;
        if (!goes(world, thing)) return -3;
        world.had.add(thing);
        return world.had.size();
    }

    int put() {
        return world.had.isEmpty() ? -3 : world.had.remove(world.had.size() - 1);
    }

    int feed(int sign) {
        if (sign < 0 || sign > 127) return -2;
        if (text.length() == 100) return -4;
        text.append((char) sign);
        return text.length();
    }

    int street() {
        if (streets == 6) return -4;
        String read = text.toString();
        text.setLength(0);
        int fault = fault(read);
        if (fault >= 0) return -10 - fault;
        world.street = read;
        return streets++;
    }

    int told(int what) {
        switch (what) {
            case 0: return world.day;
            case 1: return need(world);
            case 2: return hold(world);
            case 3: return world.bits();
            case 4: {
                int bits = 0;
                for (Thing t : world.things) if (goes(world, t.number)) bits += 1 << t.number;
                return bits;
            }
            case 5: return union(world, world.bits());
            case 6: return twins();
            case 7: return cover();
            default: return -1;
        }
    }

    private static int union(World w, int set) {
        int union = 0;
        for (Thing t : w.things) if ((set & 1 << t.number) != 0) union |= t.marks;
        return union;
    }

    private int twins() {
        for (int unlike = 0; unlike <= 8; unlike++) {
            for (Thing a : world.things) {
                for (Thing b : world.things) {
                    if (a.number < b.number && many(a.marks ^ b.marks) == unlike) return 10 * a.number + b.number;
                }
            }
        }
        return -5;
    }

    private int cover() {
        int full = (1 << world.things.size()) - 1;
        for (int size = 0; size <= 6; size++) {
            for (int set = 0; set <= full; set++) {
                if (many(set) == size && union(world, set) == union(world, full)) return set;
            }
        }
        return -99;
    }

    int pass(int n) {
        if (n < 0 || n > 60) return -2;
        if (world.day + n > 9999) return -3;
        world = behind(world, n);
        return world.had.size();
    }

    int on(int n, int what) {
        if (what != 0 && what != 1) return -1;
        if (n < 0 || n > 60) return -2;
        World then = behind(world, n);
        return what == 0 ? then.bits() : then.had.size();
    }

    private int fewest(java.util.function.Predicate<World> is) {
        World then = world.copy();
        for (int d = 0; d <= 60; d++) {
            if (is.test(then)) return d;
            day(then);
        }
        return -5;
    }

    int soon(int q) {
        return q < 0 || q > 6 ? -2 : fewest(w -> w.had.size() >= q);
    }

    int when(int thing) {
        return no(thing) ? -1 : fewest(w -> w.had.contains(thing));
    }

    int most(int k) {
        if (k < -1 || k > 5) return -1;
        List<Integer> row = most(world);
        return k == -1 ? row.size() : k < row.size() ? row.get(k) : -5;
    }

    int best(int what) {
        if (what == 0) {
            int start = -5, greatest = -1;
            for (int t = 0; t < world.things.size(); t++) {
                if (goes(world, t)) {
                    World next = world.copy();
                    next.had.add(t);
                    if (most(next).size() > greatest) {
                        greatest = most(next).size();
                        start = t;
                    }
                }
            }
            return start;
        }
        if (what != 1) return -1;
        int back = -5, greatest = world.had.size() + most(world).size();
        for (int t = 0; t < world.things.size(); t++) {
            World without = world.copy();
            if (without.had.remove((Integer) t)) {
                int together = without.had.size() + most(without).size();
                if (together > greatest) {
                    greatest = together;
                    back = t;
                }
            }
        }
        return back;
    }

    int reach(int thing) {
        if (no(thing)) return -1;
        if (world.had.contains(thing)) return -5;
        List<List<Integer>> all = new ArrayList<>();
        rows(world, new ArrayList<>(), all);
        int fewest = 99;
        for (List<Integer> row : all) {
            int at = row.indexOf(thing);
            if (at >= 0) fewest = Math.min(fewest, at);
        }
        return fewest == 99 ? -5 : fewest;
    }

    private static int among(int last, int what, IntPredicate is) {
        int many = 0, least = -5;
        for (int n = last; n >= 0; n--) {
            if (is.test(n)) {
                many++;
                least = n;
            }
        }
        return what == 0 ? many : least;
    }

    int fitting(int thing, int what) {
        if (no(thing) || what != 0 && what != 1) return -1;
        return among(255, what, n -> {
            World w = world.copy();
            w.things.get(thing).marks = n;
            return goes(w, thing);
        });
    }

    int see(int thing, boolean isHad, int n) {
        if (thing == -1) {
            world.seen.clear();
            return 0;
        }
        if (no(thing)) return -1;
        if (n < 0 || n > 20) return -2;
        if (world.seen.size() == 5) return -4;
        world.seen.add(new int[] {thing, isHad ? 1 : 0, n});
        return world.seen.size();
    }

    private static boolean allSeen(World w) {
        for (int[] seen : w.seen) {
            if (behind(w, seen[2]).had.contains(seen[0]) != (seen[1] == 1)) return false;
        }
        return true;
    }

    int marked(int thing, int what) {
        if (no(thing) || what != 0 && what != 1) return -1;
        return among(255, what, n -> {
            World w = world.copy();
            w.things.get(thing).marks = n;
            return allSeen(w);
        });
    }

    int can(int thing, int what) {
        if (no(thing) || what != 0 && what != 1) return -1;
        return among(9, what, n -> {
            World w = world.copy();
            w.things.get(thing).v = n;
            return allSeen(w);
        });
    }

    private static long fraction(int above, int below, int part) {
        if (below == 0 || part != 0 && part != 1) return Long.MIN_VALUE;
        int by = below;
        while (above % by != 0 || below % by != 0) by--;
        return part == 0 ? above / by : below / by;
    }

    long odds(int n, int q, int part) {
        if (n < 0 || n > 60 || q < 0 || q > 6) return Long.MIN_VALUE;
        int ways = 0;
        for (int t = 0; t < world.things.size(); t++) {
            World w = world.copy();
            w.things.get(t).marks = 0;
            if (behind(w, n).had.size() >= q) ways++;
        }
        return fraction(ways, world.things.size(), part);
    }

    long mean(int part) {
        int all = 0;
        for (Thing t : world.things) all += many(t.marks);
        return fraction(all, world.things.size(), part);
    }

    int week(int what, int n) {
        if (what == -1) {
            world.week.clear();
            return 0;
        }
        if (what < 0 || what > 2 || what == 2 && no(n)) return -1;
        if (world.week.size() == 10) return -4;
        world.week.add(new int[] {what, n});
        return world.week.size();
    }

    int ends(int what) {
        if (what != 0 && what != 1) return -1;
        World w = world.copy();
        for (int[] go : world.week) {
            if (go[0] == 0) day(w);
            if (go[0] == 1 && !w.had.isEmpty()) w.had.remove(w.had.size() - 1);
            if (go[0] == 2 && goes(w, go[1])) w.had.add(go[1]);
        }
        return what == 0 ? w.bits() : many(union(w, w.bits()));
    }

    int book(int thing, int marks) {
        if (thing == -1) {
            world.book.clear();
            return 0;
        }
        if (no(thing)) return -1;
        if (marks < 0 || marks > 255) return -2;
        if (world.book.size() == 8) return -4;
        world.book.add(new int[] {thing, marks});
        return world.book.size();
    }

    int looked() {
        for (int[] row : world.book) {
            if (world.things.get(row[0]).marks != row[1]) return world.book.indexOf(row);
        }
        return -5;
    }

    int judge(int tape, int i) {
        if (tape < 0 || tape > 5) return -1;
        if (tapes[tape] != null && sorts[tape] != 1) return -12;
        if (world.things.isEmpty()) return -5;
        if (tapes[tape] == null || i < 0) return 100;
        int looked = 0;
        for (Thing t : world.things) {
            long place = (long) i + t.number;
            if (place >= tapes[tape].length) return 100 + looked;
            if (tapes[tape][(int) place] != t.marks) return t.number;
            looked++;
        }
        return -5;
    }

    int image() {
        image = world.copy();
        return world.things.size();
    }

    int undo() {
        if (image == null) return -3;
        world = image.copy();
        return world.things.size();
    }

    int act(int thing, int act, int x) {
        trace = new ArrayList<>();
        if (no(thing) || act < 0 || act > 2) return 0;
        Thing t = world.things.get(thing);
        Lying[] kinds = {new Lying(), new Glove(), new Key(), new Letter(), new Bait(), new Ticket(), new Told()};
        Lying one = kinds[t.kind];
        one.i = thing;
        one.v = t.v;
        one.trace = trace;
        return act == 0 ? one.lies(x) : act == 1 ? one.fits(x) : one.tells(x);
    }

    /** The KINDS as Java's own classes: the bodies as the document writes them. */
    private static class Lying {
        int i, v;
        List<Integer> trace;

        int lies(int x) { trace.add(10); return x + i; }
        int fits(int x) { trace.add(11); return lies(x) - v; }
        int tells(int x) { trace.add(12); return fits(x) * 2; }
    }

    private static class Glove extends Lying {
        @Override int fits(int x) { trace.add(20); return super.fits(x) ^ 6; }
    }

    private static class Key extends Lying {
        @Override int lies(int x) { trace.add(30); return super.lies(x * 3); }
    }

    private static class Letter extends Lying {
        @Override int tells(int x) { trace.add(40); return super.tells(x) + fits(1); }
    }

    private static class Bait extends Glove {
        @Override int lies(int x) { trace.add(50); return -super.lies(x); }
        @Override int fits(int x) { trace.add(51); return super.fits(x + 1); }
    }

    private static class Ticket extends Key {
        @Override int tells(int x) { trace.add(60); return super.tells(x - i); }
    }

    private static class Told extends Letter {
        @Override int fits(int x) { trace.add(70); return super.fits(x) + super.lies(2); }
        @Override int lies(int x) { trace.add(71); return super.lies(x) ^ v; }
    }

    int trace(int i) {
        return i < 0 || i >= Math.min(20, trace.size()) ? -1 : trace.get(i);
    }

    int taken(int thing, int k) {
        if (k < 0 || k > 6) return -2;
        if (no(thing)) return -11;
        Class<?>[] classes = {Lying.class, Glove.class, Key.class, Letter.class, Bait.class, Ticket.class, Told.class};
        int kind = world.things.get(thing).kind;
        return classes[k].isAssignableFrom(classes[kind]) ? kind : -12;
    }

    int count(int what) {
        int[] counts = {world.things.size(), streets, world.had.size(), world.seen.size(), world.week.size(),
            world.book.size(), text.length(), trace.size()};
        return what < 0 || what > 7 ? -2 : counts[what];
    }

    int tape(int tape, int sort, int n) {
        if (tape < 0 || tape > 5) return -1;
        if (sort < -1 || sort > 4) return -2;
        if (sort == -1) {
            tapes[tape] = null;
            return 1;
        }
        if (n > 60) return -2;
        if (n < 0) return -14;
        tapes[tape] = new long[n];
        sorts[tape] = sort;
        return 1;
    }

    int item(int tape, int i, long v) {
        if (tape < 0 || tape > 5) return -1;
        if (tapes[tape] == null) return -11;
        if (i < 0 || i >= tapes[tape].length) return -13;
        long[] cut = {(byte) v, (short) v, (int) v, v, v == 0 ? 0 : 1};
        tapes[tape][i] = cut[sorts[tape]];
        return 1;
    }

    long read(int tape, int i) {
        if (tape < 0 || tape > 5 || tapes[tape] == null || i < 0 || i >= tapes[tape].length) return Long.MIN_VALUE;
        return tapes[tape][i];
    }

    int shift(int tape, int i, int other, int j, int n) {
        if (tape < 0 || tape > 5 || other < 0 || other > 5) return -1;
        if (tapes[tape] == null || tapes[other] == null) return -11;
        if (sorts[tape] != sorts[other]) return -12;
        if (n < 0 || i < 0 || j < 0) return -13;
        if ((long) i + n > tapes[tape].length || (long) j + n > tapes[other].length) return -13;
        long[] before = tapes[tape].clone();
        for (int k = 0; k < n; k++) tapes[other][j + k] = before[i + k];
        return n;
    }
}
