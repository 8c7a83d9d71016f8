/** The Terms: TAPES, what is JUDGED, and what the answers mean. */
final class TapeBoundaries extends Boundary {
    @Sentence("TAPES 0 .. 5 hold nothing (at first), or a row of 0 bytes, 1 shorts, 2 ints, 3 longs, 4 booleans"
        + " (items 0, 1).")
    static void sorts() {
        PickedMatch x = new PickedMatch();
        for (int t = 0; t < 6; t++) {
            reads(x, t);
            due("TAPE " + t + " at first", x.item(t, 0, 1), -11);
        }
        due("no TAPE -1", x.item(-1, 0, 1), -1);
        due("no TAPE 6", x.item(6, 0, 1), -1);
        // the greatest and the least that each holds, and what comes behind them
        long[] greatest = {127, 32767, MAX, Long.MAX_VALUE}, least = {-128, -32768, MIN, Long.MIN_VALUE};
        for (int sort = 0; sort < 4; sort++) {
            x.tape(sort, sort, 4);
            x.item(sort, 0, greatest[sort]);
            x.item(sort, 1, least[sort]);
            x.item(sort, 2, greatest[sort] + 1);
            x.item(sort, 3, least[sort] - 1);
            reads(x, sort, greatest[sort], least[sort], least[sort], greatest[sort]);
        }
        x.tape(4, 4, 5);
        long[] given = {0, 1, 2, -1, 1L << 40};
        for (int i = 0; i < 5; i++) x.item(4, i, given[i]);
        reads(x, 4, 0, 1, 1, 1, 1);
        due("sort -2", x.tape(0, -2, 0), -2);
        due("sort 5", x.tape(0, 5, 0), -2);
    }

    /** THINGS with the MARKS 0, 2, 255, and a row of shorts. */
    private static PickedMatch told(int... row) {
        PickedMatch x = things(0, 2, 255);
        x.tape(0, 1, row.length);
        for (int i = 0; i < row.length; i++) x.item(0, i, row[i]);
        return x;
    }

    @Sentence("MARKS told by a row of shorts, from a place on, THING by THING, are JUDGED:")
    static void judged() {
        due("as they are", told(0, 2, 255).judge(0, 0), -5);
        due("from the last place by which it ends too late", told(9, 9, 0, 2, 255).judge(0, 2), -5);
        due("the rest does not matter", told(0, 2, 255, 9, 9).judge(0, 0), -5);
        PickedMatch x = told(new int[60]);
        x.item(0, 58, 2);
        x.item(0, 59, 255);
        due("at the end of 60", x.judge(0, 57), -5);
        due("one behind", x.judge(0, 58), 0);
        x.item(0, 58, 0);
        x.item(0, 59, 2);
        due("the end of 60 ahead of the last one", x.judge(0, 58), 102);
    }

    @Sentence("the first that is otherwise;")
    static void firstOtherwise() {
        due("THING 0", told(1, 2, 255).judge(0, 0), 0);
        due("THING 1", told(0, 3, 254).judge(0, 0), 1);
        due("THING 2", told(0, 2, 254).judge(0, 0), 2);
        due("a short of more bits", told(0, 2, -1).judge(0, 0), 2);
        due("a short of more bits", told(256, 2, 255).judge(0, 0), 0);
        due("cut to a short", told(65536, 65538, 255).judge(0, 0), -5);
        due("ahead of the end", told(0, 3).judge(0, 0), 1);
        due("by its place", told(0, 0, 2, 255).judge(0, 0), 1);
    }

    @Sentence("-5: none, or there is none to look at;")
    static void noneOtherwise() {
        due("none", told(0, 2, 255).judge(0, 0), -5);
        PickedMatch x = new PickedMatch();
        due("no THINGS, and the TAPE holds nothing", x.judge(0, 0), -5);
        x.tape(0, 1, 0);
        due("no THINGS, and an empty row", x.judge(0, 0), -5);
        x.tape(0, 1, 3);
        due("no THINGS", x.judge(0, 0), -5);
        due("no THINGS, and a place below 0", x.judge(0, -1), -5);
        due("no THINGS, and a place behind the end", x.judge(0, 4), -5);
    }

    @Sentence("100 and how many were looked at, if the row ends ahead of that (or the place is below 0, or the TAPE holds"
        + " nothing).")
    static void rowEnds() {
        due("an empty row", told().judge(0, 0), 100);
        due("behind one", told(0).judge(0, 0), 101);
        due("behind two", told(0, 2).judge(0, 0), 102);
        due("from the end on", told(0, 2, 255).judge(0, 3), 100);
        due("from the last one on", told(9, 9, 0).judge(0, 2), 101);
        due("behind the end", told(0, 2, 255).judge(0, 4), 100);
        due("far behind", told(0, 2, 255).judge(0, MAX), 100);
        due("a little less far", told(0, 2, 255).judge(0, MAX - 1), 100);
        due("below 0", told(0, 2, 255).judge(0, -1), 100);
        due("far below", told(0, 2, 255).judge(0, MIN), 100);
        due("holds nothing", told(0, 2, 255).judge(1, 0), 100);
        due("holds nothing, below 0", told(0, 2, 255).judge(1, -1), 100);
        PickedMatch x = told(0, 2, 255);
        x.tape(0, -1, 0);
        due("holds nothing any more", x.judge(0, 0), 100);
    }

    @Sentence("The host's refusals: NOTHING (-11): nothing is there; CAST (-12): another sort or KIND; PLACE (-13): no such"
        + " place; SIZE (-14): a size below 0.")
    static void hostRefusals() {
        PickedMatch x = things(0);
        due("NOTHING", x.taken(1, 0), -11);
        due("NOTHING", x.item(0, 0, 0), -11);
        due("NOTHING", x.shift(0, 0, 1, 0, 0), -11);
        due("CAST, another KIND", x.taken(0, 1), -12);
        x.tape(0, 0, 1);
        x.tape(1, 2, 1);
        due("CAST, another sort", x.judge(0, 0), -12);
        due("CAST, another sort", x.shift(0, 0, 1, 0, 1), -12);
        due("PLACE", x.item(0, 1, 0), -13);
        due("PLACE", x.shift(0, 1, 0, 0, 1), -13);
        due("SIZE", x.tape(0, 0, -1), -14);
    }

    @Sentence("Answers: NONE (-1) no such number; BAD (-2) a number is not as told; STATE (-3) as told; FULL (-4); the first"
        + " that a call's words name.")
    static void firstNamed() {
        due("NONE", PickedMatch.NONE, -1);
        due("BAD", PickedMatch.BAD, -2);
        due("STATE", PickedMatch.STATE, -3);
        due("FULL", PickedMatch.FULL, -4);
        due("NO", PickedMatch.NO, Long.MIN_VALUE);
        PickedMatch x = things(0, 0, 0, 0, 0, 0);
        for (int i = 0; i < 100; i++) x.feed('x');
        for (int i = 0; i < 5; i++) x.see(0, true, 0);
        for (int i = 0; i < 10; i++) x.week(0, 0);
        for (int i = 0; i < 8; i++) x.book(0, 0);
        due("thing: NONE, BAD, FULL", x.thing(7, 10, 256), -1);
        due("thing: BAD, FULL", x.thing(6, 10, 0), -2);
        due("thing: BAD, FULL", x.thing(6, 0, 256), -2);
        due("thing: FULL", x.thing(6, 9, 255), -4);
        due("mark: NONE, BAD", x.mark(6, 256), -1);
        due("row: NONE, BAD, STATE", x.row(0, 4, 10), -1);
        due("row: NONE, BAD", x.row(6, 0, 10), -1);
        due("row: BAD, STATE", x.row(0, 0, 10), -2);
        due("row: STATE", x.row(0, 0, 9), -3);
        due("feed: BAD, FULL", x.feed(128), -2);
        due("feed: FULL", x.feed(127), -4);
        due("on: NONE, BAD", x.on(61, 2), -1);
        due("see: NONE, BAD, FULL", x.see(6, true, 21), -1);
        due("see: BAD, FULL", x.see(5, true, 21), -2);
        due("see: FULL", x.see(5, true, 20), -4);
        due("week: NONE, FULL", x.week(3, 0), -1);
        due("week: NONE, FULL", x.week(2, 6), -1);
        due("week: FULL", x.week(2, 5), -4);
        due("book: NONE, BAD, FULL", x.book(6, 256), -1);
        due("book: BAD, FULL", x.book(5, 256), -2);
        due("book: FULL", x.book(5, 255), -4);
        due("judge: NONE", x.judge(6, 0), -1);
        due("taken: BAD, NOTHING", x.taken(6, 7), -2);
        due("taken: NOTHING, CAST", x.taken(6, 6), -11);
        due("tape: NONE, BAD, SIZE", x.tape(6, 5, -1), -1);
        due("tape: BAD, SIZE", x.tape(5, 5, -1), -2);
        due("item: NONE, NOTHING", x.item(6, -1, 0), -1);
        due("item: NOTHING, PLACE", x.item(5, -1, 0), -11);
        due("shift: NONE, NOTHING", x.shift(6, -1, 0, 0, 1), -1);
        due("shift: NONE, NOTHING", x.shift(0, -1, 6, 0, 1), -1);
        due("shift: NOTHING, PLACE", x.shift(0, -1, 0, 0, 1), -11);
        x.tape(0, 0, 1);
        x.tape(1, 1, 1);
        due("shift: NOTHING, PLACE", x.shift(0, -1, 5, 0, 1), -11);
        due("shift: CAST, PLACE", x.shift(0, -1, 1, 0, 1), -12);
        x = onDay(9999);
        due("pass: BAD, STATE", x.pass(61), -2);
        due("pass: STATE", x.pass(60), -3);
        x = new PickedMatch();
        for (int i = 0; i < 6; i++) street(x, "need 1");
        due("street: FULL ahead of a FAULT", x.street(), -4);
    }
}
