import java.util.LinkedHashMap;
import java.util.Map;
import java.util.function.Supplier;

/** The Terms: what is refused, and what is asked, changes nothing of all that can be asked for afterwards. */
final class RefusalBoundaries extends Boundary {
    private interface Call {
        long on(PickedMatch x);
    }

    /** Some of everything, and an IMAGE of an earlier state. */
    private static PickedMatch some() {
        return someOf(new PickedMatch());
    }

    private static PickedMatch someOf(PickedMatch x) {
        x.thing(6, 5, 0b1011);
        x.thing(1, 2, 7);
        x.thing(4, 8, 0b11100000);
        x.thing(5, 9, 0b11);
        for (int part = 0; part < 4; part++) x.row(0, part, 3 + part);
        street(x, "need 1;like 2 v>8;mind 1 t=0&d=9;hold 5");
        x.take(1);
        x.see(1, true, 0);
        x.see(2, false, 20);
        x.week(2, 3);
        x.week(0, 0);
        x.book(1, 7);
        x.book(3, 3);
        x.image();
        x.mark(3, 0b111);
        x.row(0, 3, 9);
        x.see(3, true, 9);
        x.week(1, 0);
        x.book(3, 7);
        feed(x, "need 4;like 3 t<2");
        for (int t = 0; t < 5; t++) {
            x.tape(t, t, 2);
            x.item(t, 0, 7);
            x.item(t, 1, 1);
        }
        x.act(0, 2, 5);
        return x;
    }

    /** All that has a limit is at it, but DAY. */
    private static PickedMatch full() {
        PickedMatch x = new PickedMatch();
        for (int t = 0; t < 6; t++) x.thing(t, t, 1 << t | 1);
        for (int n = 0; n < 6; n++) street(x, "need " + n % 2);
        for (int i = 0; i < 5; i++) x.see(0, false, i);
        for (int i = 0; i < 10; i++) x.week(2, i % 3);
        for (int i = 0; i < 8; i++) x.book(i % 6, 1 << i % 6 | 1);
        x.image();
        for (int i = 0; i < 100; i++) x.feed('x');
        x.take(0);
        return x;
    }

    private static PickedMatch lastDay() {
        return someOf(onDay(9999));
    }

    private static void things(PickedMatch x, StringBuilder all) {
        for (int what = 0; what < 8; what++) all.append(" told").append(what).append('=').append(x.told(what));
        for (int what = 0; what < 8; what++) all.append(" count").append(what).append('=').append(x.count(what));
        for (int t = 0; t < x.count(0); t++) {
            all.append(" of").append(t);
            for (int what = 0; what < 7; what++) all.append(what == 0 ? '=' : ',').append(x.of(t, what));
            all.append(" marked").append(t).append('=').append(x.marked(t, 0)).append(',').append(x.marked(t, 1));
        }
        all.append(" ends=").append(x.ends(0)).append(" looked=").append(x.looked());
    }

    /** All that can be asked for; the calls that change something come last. */
    private static String state(PickedMatch x) {
        StringBuilder all = new StringBuilder();
        things(x, all);
        for (int t = 0; t < x.count(0); t++) all.append(" can").append(t).append('=').append(x.can(t, 0));
        for (int i = 0; i < 13; i++) all.append(i == 0 ? " trace=" : ",").append(x.trace(i));
        for (int t = 0; t < 6; t++) {
            all.append(" tape").append(t);
            for (int i = 0; i < 3; i++) all.append(i == 0 ? '=' : ',').append(x.read(t, i));
            all.append(',').append(x.shift(t, 0, t, 0, 0));
        }
        for (int i = 0; i < 4; i++) all.append(i == 0 ? " row=" : ",").append(x.row(0, i, 0));
        all.append(" street=").append(x.street()).append(',').append(x.told(1)).append(',').append(x.of(0, 4));
        all.append(" undo=").append(x.undo());
        things(x, all);
        for (int i = 0; i < 4; i++) all.append(i == 0 ? " row=" : ",").append(x.row(0, i, 0));
        return all.toString();
    }

    private static void changesNothing(String name, Supplier<PickedMatch> made, Map<String, Call> calls, long refusal) {
        String before = state(made.get());
        for (Map.Entry<String, Call> call : calls.entrySet()) {
            PickedMatch x = made.get();
            long answer = call.getValue().on(x);
            if (refusal != 0) due(call.getKey(), answer, refusal);
            same(name + " behind " + call.getKey(), state(x), before);
        }
    }

    private static Map<String, Call> none() {
        Map<String, Call> calls = new LinkedHashMap<>();
        calls.put("thing of KIND -1", x -> x.thing(-1, 1, 1));
        calls.put("thing of KIND 7", x -> x.thing(7, 1, 1));
        for (int t : new int[] {-2, -1, 6, MIN, MAX}) {
            calls.put("mark " + t, x -> x.mark(t, 1));
            calls.put("row " + t, x -> x.row(t, 0, 1));
            calls.put("take " + t, x -> x.take(t));
            calls.put("week 2, " + t, x -> x.week(2, t));
            if (t == -1) continue;
            calls.put("see " + t, x -> x.see(t, true, 0));
            calls.put("week of " + t, x -> x.week(t == 6 ? 3 : t, 0));
            calls.put("book " + t, x -> x.book(t, 1));
        }
        for (int tape : new int[] {-1, 6, MIN, MAX}) {
            calls.put("tape " + tape, x -> x.tape(tape, 0, 1));
            calls.put("tape " + tape + " of nothing", x -> x.tape(tape, -1, 1));
            calls.put("item " + tape, x -> x.item(tape, 0, 9));
            calls.put("shift " + tape, x -> x.shift(tape, 0, 0, 1, 1));
            calls.put("shift to " + tape, x -> x.shift(0, 0, tape, 1, 1));
        }
        return calls;
    }

    private static Map<String, Call> rowNone() {
        Map<String, Call> calls = new LinkedHashMap<>();
        for (int part : new int[] {-1, 4, MIN, MAX}) calls.put("row, part " + part, x -> x.row(0, part, 1));
        return calls;
    }

    private static Map<String, Call> bad() {
        Map<String, Call> calls = new LinkedHashMap<>();
        for (int n : new int[] {-1, 10, 256, MIN, MAX}) calls.put("thing, v " + n, x -> x.thing(0, n, 1));
        for (int n : new int[] {-1, 256, MIN, MAX}) {
            calls.put("thing, marks " + n, x -> x.thing(0, 1, n));
            calls.put("mark, n " + n, x -> x.mark(0, n));
            calls.put("row, n " + n, x -> x.row(0, 0, n));
            calls.put("row of another KIND, n " + n, x -> x.row(1, 0, n));
            calls.put("feed " + n, x -> x.feed(n));
            calls.put("pass " + n, x -> x.pass(n));
            calls.put("see, n " + n, x -> x.see(0, true, n));
            calls.put("book, marks " + n, x -> x.book(0, n));
        }
        for (int sort : new int[] {-2, 5, MIN, MAX}) calls.put("tape, sort " + sort, x -> x.tape(0, sort, 1));
        for (int n : new int[] {61, MAX}) calls.put("tape, n " + n, x -> x.tape(0, 0, n));
        calls.put("row, n 10", x -> x.row(0, 0, 10));
        calls.put("feed 128", x -> x.feed(128));
        calls.put("pass 61", x -> x.pass(61));
        calls.put("see, n 21", x -> x.see(0, true, 21));
        return calls;
    }

    private static Map<String, Call> one(String name, Call call) {
        Map<String, Call> calls = new LinkedHashMap<>();
        calls.put(name, call);
        return calls;
    }

    private static Map<String, Call> fullCalls() {
        Map<String, Call> calls = new LinkedHashMap<>();
        calls.put("thing", x -> x.thing(6, 9, 255));
        calls.put("feed", x -> x.feed('y'));
        calls.put("street", x -> x.street());
        calls.put("see", x -> x.see(0, true, 0));
        calls.put("week", x -> x.week(0, 0));
        calls.put("book", x -> x.book(0, 0));
        return calls;
    }

    @Sentence("What is answered so changes nothing;")
    static void refusals() {
        changesNothing("some", RefusalBoundaries::some, none(), -1);
        changesNothing("some", RefusalBoundaries::some, rowNone(), -1);
        changesNothing("some", RefusalBoundaries::some, bad(), -2);
        changesNothing("some", RefusalBoundaries::some, one("row of another KIND", x -> x.row(1, 0, 1)), -3);
        changesNothing("some", RefusalBoundaries::some, one("take what is HAD", x -> x.take(1)), -3);
        changesNothing("some", RefusalBoundaries::some, one("take what does not go", x -> x.take(2)), -3);
        changesNothing("the last DAY", RefusalBoundaries::lastDay, one("pass 1", x -> x.pass(1)), -3);
        changesNothing("the last DAY", RefusalBoundaries::lastDay, one("pass 60", x -> x.pass(60)), -3);
        changesNothing("a new object", PickedMatch::new, one("put", x -> x.put()), -3);
        changesNothing("a new object", PickedMatch::new, one("undo", x -> x.undo()), -3);
        changesNothing("full", RefusalBoundaries::full, fullCalls(), -4);
        Map<String, Call> nothing = one("item", x -> x.item(5, 0, 9));
        nothing.put("shift", x -> x.shift(5, 0, 0, 0, 1));
        nothing.put("shift to", x -> x.shift(0, 0, 5, 0, 1));
        changesNothing("some", RefusalBoundaries::some, nothing, -11);
        Map<String, Call> cast = one("shift", x -> x.shift(0, 0, 2, 1, 1));
        cast.put("judge", x -> x.judge(0, 0));
        changesNothing("some", RefusalBoundaries::some, cast, -12);
        Map<String, Call> place = one("item", x -> x.item(0, 2, 9));
        place.put("item -1", x -> x.item(0, -1, 9));
        place.put("shift of three", x -> x.shift(2, 0, 2, 0, 3));
        place.put("shift to 1", x -> x.shift(2, 0, 2, 1, 2));
        place.put("shift from -1", x -> x.shift(2, -1, 2, 0, 1));
        changesNothing("some", RefusalBoundaries::some, place, -13);
        changesNothing("some", RefusalBoundaries::some, one("tape", x -> x.tape(2, 2, -1)), -14);
    }

    private static Map<String, Call> asked() {
        Map<String, Call> calls = new LinkedHashMap<>();
        for (int n : new int[] {-2, -1, 0, 1, 2, 3, 4, 5, 6, 7, 8, 20, 60, 61, MIN, MAX}) {
            calls.put("on " + n, x -> x.on(n, 0) + x.on(n, 1) + x.on(1, n));
            calls.put("soon, when, most, best, reach " + n, x -> x.soon(n) + x.when(n) + x.most(n) + x.best(n) + x.reach(n));
            calls.put("of, told, count, trace " + n, x -> x.of(n, 4) + x.of(0, n) + x.told(n) + x.count(n) + x.trace(n));
            calls.put("fitting " + n, x -> x.fitting(n, 0) + x.fitting(n, 1) + x.fitting(2, n));
            calls.put("marked " + n, x -> x.marked(n, 0) + x.marked(n, 1) + x.marked(2, n));
            calls.put("can " + n, x -> x.can(n, 0) + x.can(n, 1) + x.can(2, n));
            calls.put("odds " + n, x -> x.odds(n, 2, 0) + x.odds(20, n, 1) + x.odds(20, 1, n));
            calls.put("mean, ends, looked " + n, x -> x.mean(n) + x.ends(n) + x.looked());
            calls.put("judge, taken, read " + n, x -> x.judge(1, n) + x.judge(n, 0) + x.taken(n, 0) + x.taken(0, n)
                + x.read(n, 0) + x.read(0, n));
        }
        return calls;
    }

    @Sentence("and changes nothing.")
    static void askedTerms() {
        changesNothing("some", RefusalBoundaries::some, asked(), 0);
    }

    @Sentence("what is asked changes nothing.")
    static void askedAtTheLimits() {
        changesNothing("full", RefusalBoundaries::full, asked(), 0);
        changesNothing("the last DAY", RefusalBoundaries::lastDay, asked(), 0);
        changesNothing("a new object", PickedMatch::new, asked(), 0);
    }
}
