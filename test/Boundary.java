/** What the tests of single sentences share. */
abstract class Boundary {
    static final long NO = Long.MIN_VALUE;
    static final int MAX = Integer.MAX_VALUE, MIN = Integer.MIN_VALUE;

    private static String named = "";
    private static int wrong = 0;

    static void begin(String sentence) {
        named = sentence;
    }

    static int wrong() {
        return wrong;
    }

    static void due(String call, long got, long want) {
        if (got != want) {
            wrong++;
            System.out.println(named + "\n  " + call + " answered " + got + ", due is " + want);
        }
    }

    static void same(String call, String got, String want) {
        if (!got.equals(want)) {
            wrong++;
            System.out.println(named + "\n  " + call + " is\n    " + got + "\n  due is\n    " + want);
        }
    }

    static void feed(PickedMatch x, String text) {
        for (int i = 0; i < text.length(); i++) x.feed(text.charAt(i));
    }

    static int street(PickedMatch x, String text) {
        feed(x, text);
        return x.street();
    }

    /** THE TEXT has its FAULT at this place. */
    static void fault(String text, int place) {
        due("street \"" + text + "\"", street(new PickedMatch(), text), -10 - place);
    }

    /** THE TEXT is a STREET. */
    static void whole(String text) {
        due("street \"" + text + "\"", street(new PickedMatch(), text), 0);
    }

    static String times(String text, int n) {
        return text.repeat(n);
    }

    /** THINGS of KIND 0 and v 0 with these MARKS. */
    static PickedMatch things(int... marks) {
        PickedMatch x = new PickedMatch();
        for (int m : marks) x.thing(0, 0, m);
        return x;
    }

    /** THINGS of KIND 0 and v 0 with these MARKS, all HAD in this order; one STREET came, by which NEED is 0. */
    static PickedMatch had(int... marks) {
        PickedMatch x = things(marks);
        street(x, "need 0");
        for (int t = 0; t < marks.length; t++) x.take(t);
        return x;
    }

    /** No THINGS, and this DAY (167 calls by the last one). */
    static PickedMatch onDay(int day) {
        PickedMatch x = new PickedMatch();
        for (int gone = 0; gone < day; gone += 60) x.pass(Math.min(60, day - gone));
        return x;
    }

    /**
     * Of six THINGS the first is HAD; by DAYS alone the third is taken on DAY 14, the fifth on DAY 40, and the
     * one that last names on the DAY behind that by which its E holds.
     */
    static PickedMatch late(int first, String last) {
        PickedMatch x = things(0, 0, 0, 0, 0, 0);
        x.take(first);
        due(last, street(x, "need 9;like 9 t=2&d=4&w=1;like 9 t=4&d=0&w=2;like 9 " + last + "&w=3"), 0);
        return x;
    }

    static void reads(PickedMatch x, int tape, long... items) {
        for (int i = 0; i < items.length; i++) due("read " + tape + " " + i, x.read(tape, i), items[i]);
        due("read " + tape + " behind its end", x.read(tape, items.length), NO);
    }
}
