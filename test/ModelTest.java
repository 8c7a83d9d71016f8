import java.util.ArrayList;
import java.util.List;

/** Runs of calls, made by a rule from their number, on the program and on the Model: every answer is the same. */
public final class ModelTest {
    private static final int RUNS = 1000;
    private static final int STEPS = 300;
    /** No step begins behind so many: behind its 512th call an object may answer anything. */
    private static final int CALLS = 300;
    private static final int[] ODD = {-1, -2, -3, -5, 6, 7, 8, 10, 61, 100, 255, 256, 1000,
        Integer.MAX_VALUE, Integer.MIN_VALUE, Integer.MAX_VALUE - 1};

    private long seed;
    private final List<String> calls = new ArrayList<>();

    private int upTo(int bound) {
        seed = seed * 6364136223846793005L + 1442695040888963407L;
        return (int) ((seed >>> 33) % bound);
    }

    /** Mostly one of least .. greatest, seldom another. */
    private int some(int least, int greatest) {
        return upTo(14) == 0 ? ODD[upTo(ODD.length)] : least + upTo(greatest - least + 1);
    }

    private String number() {
        String[] numbers = {"0", "1", "2", "3", "4", "5", "9", "00", "07", "10", "42", "99"};
        return numbers[upTo(upTo(3) == 0 ? numbers.length : 6)];
    }

    private String test() {
        return "" + "tkvmwd".charAt(upTo(6)) + "<=>".charAt(upTo(3)) + number();
    }

    private String factor(int depth) {
        int form = upTo(5);
        if (depth < 5 && form == 0) return "!" + factor(depth + 1);
        if (depth < 5 && form == 1) return "(" + either(depth + 1) + ")";
        return test();
    }

    private String either(int depth) {
        StringBuilder e = new StringBuilder(factor(depth));
        while (upTo(3) == 0 && e.length() < 40) e.append(upTo(2) == 0 ? '|' : '&').append(factor(depth));
        return e.toString();
    }

    private String clause() {
        int form = upTo(6);
        if (form == 0) return "need " + number();
        if (form == 1) return "hold " + number();
        return (form < 4 ? "like " : "mind ") + number() + " " + either(0);
    }

    private String text() {
        StringBuilder text = new StringBuilder(clause());
        int more = upTo(4) == 0 ? 11 : upTo(4);
        for (int i = 0; i < more && text.length() < 90; i++) {
            text.append(';').append(more > 4 ? "need " + upTo(5) : clause());
        }
        if (upTo(3) == 0) {
            int at = upTo(text.length());
            String signs = "likemndhotvwd<=>()!&|; 0123456789";
            char sign = signs.charAt(upTo(signs.length()));
            int how = upTo(4);
            if (how == 0) text.setCharAt(at, sign);
            if (how == 1) text.insert(at, sign);
            if (how == 2) text.deleteCharAt(at);
            if (how == 3) text.setLength(at);
        }
        return text.toString();
    }

    private boolean same(String call, long got, long due) {
        calls.add(call + " = " + due);
        if (got == due) return true;
        System.out.println(String.join("\n", calls));
        System.out.println("the last one answered " + got);
        return false;
    }

    private boolean feedText(PickedMatch x, Model m, String text) {
        for (int i = 0; i < text.length(); i++) {
            if (!same("feed " + text.charAt(i), x.feed(text.charAt(i)), m.feed(text.charAt(i)))) return false;
        }
        return true;
    }

    private boolean tell(PickedMatch x, Model m) {
        int a = some(0, 5), b = some(0, 6), c = some(0, 255), d = some(0, 9);
        switch (upTo(16)) {
            case 0: case 1: return same("thing " + b + " " + d + " " + c, x.thing(b, d, c), m.thing(b, d, c));
            case 2: return same("mark " + a + " " + c, x.mark(a, c), m.mark(a, c));
            case 3: {
                int part = some(0, 3);
                return same("row " + a + " " + part + " " + d, x.row(a, part, d), m.row(a, part, d));
            }
            case 4: case 5: return same("take " + a, x.take(a), m.take(a));
            case 6: return same("put", x.put(), m.put());
            case 7: {
                if (upTo(3) != 0) return true;
                boolean fed = feedText(x, m, text());
                return fed && (upTo(6) == 0 || same("street", x.street(), m.street()));
            }
            case 8: {
                int n = upTo(3) == 0 ? some(0, 60) : some(0, 4);
                return same("pass " + n, x.pass(n), m.pass(n));
            }
            case 9: case 10: {
                int t = upTo(9) == 0 ? -1 : a;
                boolean isHad = upTo(2) == 0;
                int n = upTo(2) == 0 ? some(0, 20) : some(0, 4);
                return same("see " + t + " " + isHad + " " + n, x.see(t, isHad, n), m.see(t, isHad, n));
            }
            case 11: case 12: {
                int what = upTo(14) == 0 ? -1 : some(0, 2);
                return same("week " + what + " " + a, x.week(what, a), m.week(what, a));
            }
            case 13: {
                int t = upTo(12) == 0 ? -1 : a;
                int marks = upTo(2) == 0 ? c : Math.max(0, x.of(t, 2));
                return same("book " + t + " " + marks, x.book(t, marks), m.book(t, marks));
            }
            case 14: return upTo(3) != 0 || same("image", x.image(), m.image());
            default: return upTo(3) != 0 || same("undo", x.undo(), m.undo());
        }
    }

    private boolean ask(PickedMatch x, Model m) {
        int a = some(0, 5), b = some(0, 7), n = upTo(2) == 0 ? some(0, 60) : some(0, 9), q = some(0, 6);
        int part = some(0, 1);
        switch (upTo(15)) {
            case 0: case 1: return same("of " + a + " " + b, x.of(a, b), m.of(a, b));
            case 2: case 3: return same("told " + b, x.told(b), m.told(b));
            case 4: return same("on " + n + " " + part, x.on(n, part), m.on(n, part));
            case 5: return same("soon " + q, x.soon(q), m.soon(q));
            case 6: return same("when " + a, x.when(a), m.when(a));
            case 7: return same("odds " + n + " " + q + " " + part, x.odds(n, q, part), m.odds(n, q, part));
            case 8: return same("mean " + part, x.mean(part), m.mean(part));
            case 9: return same("fitting " + a + " " + part, x.fitting(a, part), m.fitting(a, part));
            case 10: return same("ends " + part, x.ends(part), m.ends(part));
            case 11: return same("looked", x.looked(), m.looked());
            case 12: return same("count " + b, x.count(b), m.count(b));
            case 13: return same("taken " + a + " " + q, x.taken(a, q), m.taken(a, q));
            default: return askDear(x, m);
        }
    }

    private boolean askDear(PickedMatch x, Model m) {
        int a = some(0, 5), k = some(-1, 5), part = some(0, 1);
        switch (upTo(5)) {
            case 0: return same("most " + k, x.most(k), m.most(k));
            case 1: return same("best " + part, x.best(part), m.best(part));
            case 2: {
                for (int t = -1; t < 7; t++) if (!same("reach " + t, x.reach(t), m.reach(t))) return false;
                return true;
            }
            case 3: return same("can " + a + " " + part, x.can(a, part), m.can(a, part));
            default: return upTo(2) == 0 || same("marked " + a + " " + part, x.marked(a, part), m.marked(a, part));
        }
    }

    private boolean tapes(PickedMatch x, Model m) {
        int a = some(0, 2), b = some(0, 2), i = some(0, 7), j = some(0, 7), n = some(0, 7);
        switch (upTo(8)) {
            case 0: {
                int sort = upTo(2) == 0 ? 1 : some(-1, 4);
                int size = upTo(3) == 0 ? some(0, 60) : n;
                return same("tape " + a + " " + sort + " " + size, x.tape(a, sort, size), m.tape(a, sort, size));
            }
            case 1: case 2: {
                long v = upTo(3) == 0 ? (long) upTo(1 << 30) * 77777777777L : upTo(2) == 0 ? upTo(256) : -upTo(70000);
                if (upTo(2) == 0) v = Math.max(0, x.of(upTo(6), 2));
                return same("item " + a + " " + i + " " + v, x.item(a, i, v), m.item(a, i, v));
            }
            case 3: return same("read " + a + " " + i, x.read(a, i), m.read(a, i));
            case 4: return same("shift " + a + " " + i + " " + b + " " + j + " " + n,
                x.shift(a, i, b, j, n), m.shift(a, i, b, j, n));
            case 5: return same("judge " + a + " " + i, x.judge(a, i), m.judge(a, i));
            case 6: {
                int act = some(0, 2), z = upTo(2) == 0 ? some(0, 9) : upTo(1 << 30) * 3;
                if (!same("act " + a + " " + act + " " + z, x.act(a, act, z), m.act(a, act, z))) return false;
                for (int k = -1; k <= x.count(7); k++) if (!same("trace " + k, x.trace(k), m.trace(k))) return false;
                return true;
            }
            default: {
                // a row that tells the MARKS of all THINGS, so that judge() has something to agree with
                if (!same("tape " + a + " 1 9", x.tape(a, 1, 9), m.tape(a, 1, 9))) return false;
                for (int t = 0; t < x.count(0); t++) {
                    int v = x.of(t, 2);
                    if (!same("item " + a + " " + (t + 1) + " " + v, x.item(a, t + 1, v), m.item(a, t + 1, v))) {
                        return false;
                    }
                }
                return same("judge " + a + " 1", x.judge(a, 1), m.judge(a, 1));
            }
        }
    }

    /** Asks for all that THE IMAGE has, so that what is asked is shown to change nothing. */
    private boolean askAll(PickedMatch x, Model m) {
        for (int what = 0; what < 8; what++) {
            if (!same("told " + what, x.told(what), m.told(what))) return false;
            if (what != 6 && what != 7 && !same("count " + what, x.count(what), m.count(what))) return false;
            for (int t = 0; t < 6; t++) {
                if (!same("of " + t + " " + what, x.of(t, what), m.of(t, what))) return false;
            }
        }
        return true;
    }

    private boolean run(int number) {
        seed = number * 1000003L;
        calls.clear();
        PickedMatch x = new PickedMatch();
        Model m = new Model();
        int first = upTo(7);
        for (int i = 0; i < first; i++) {
            int kind = upTo(7), v = upTo(10), marks = upTo(3) == 0 ? 1 << upTo(8) : upTo(256);
            if (!same("thing " + kind + " " + v + " " + marks, x.thing(kind, v, marks), m.thing(kind, v, marks))) {
                return false;
            }
        }
        if (upTo(2) == 0 && (!feedText(x, m, text()) || !same("street", x.street(), m.street()))) return false;
        for (int i = 0; i < STEPS && calls.size() < CALLS; i++) {
            int form = upTo(8);
            boolean goesOn = form < 3 ? tell(x, m) : form < 7 ? ask(x, m) : tapes(x, m);
            if (!goesOn || i % 60 == 59 && !askAll(x, m)) return false;
        }
        return true;
    }

    public static void main(String[] args) {
        for (int number = 1; number <= RUNS; number++) {
            if (!new ModelTest().run(number)) {
                System.out.println("ModelTest: run " + number + " is otherwise");
                System.exit(1);
            }
        }
        System.out.println("ModelTest: " + RUNS + " runs are as by the model");
    }
}
