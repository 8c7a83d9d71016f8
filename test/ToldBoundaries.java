/** The Terms: what is told by hand, odds, ACTS and THE IMAGE. */
final class ToldBoundaries extends Boundary {
    /** Of six THINGS the first is HAD, and by DAYS alone the second is taken on DAY 19. */
    private static PickedMatch onDayNineteen() {
        PickedMatch x = things(0, 0, 0, 0, 0, 0);
        x.take(0);
        street(x, "need 9;like 9 t=1&d=9");
        return x;
    }

    private static void seen(String what, PickedMatch x, int thing, boolean isHad, int n, boolean isSo) {
        x.see(-1, true, 0);
        x.see(thing, isHad, n);
        due(what, x.marked(5, 0), isSo ? 256 : 0);
        due(what, x.can(5, 1), isSo ? 0 : -5);
    }

    @Sentence("SEEN told by hand: a THING, whether it is HAD behind n DAYS (0 .. 20) from now (5 at most).")
    static void seenDays() {
        PickedMatch x = onDayNineteen();
        due("-1", x.see(1, true, -1), -2);
        due("21", x.see(1, true, 21), -2);
        seen("HAD now", x, 0, true, 0, true);
        seen("HAD now", x, 0, false, 0, false);
        seen("not HAD now", x, 1, false, 0, true);
        seen("not HAD now", x, 1, true, 0, false);
        seen("behind 19", x, 1, false, 19, true);
        seen("behind 19", x, 1, true, 19, false);
        seen("behind 20", x, 1, true, 20, true);
        seen("behind 20", x, 1, false, 20, false);
        x.pass(1);
        seen("behind 18 from a later now", x, 1, false, 18, true);
        seen("behind 19 from a later now", x, 1, true, 19, true);
        x.see(-1, true, 0);
        for (int i = 1; i <= 5; i++) due("see", x.see(0, true, 0), i);
        due("a sixth", x.see(0, false, 0), -4);
        due("the five are so", x.marked(5, 0), 256);
    }

    @Sentence("MARKED of a THING: how many of 0 .. 255 there are by which, were these its MARKS now, all of SEEN is so;"
        + " the least (-5: none).")
    static void marked() {
        PickedMatch x = things(0, 0, 0);
        marked("nothing is SEEN", x, 1, 256, 0);
        x.take(0);
        x.see(1, true, 2);
        marked("none", x, 1, 0, -5);
        x.mark(0, 255);
        marked("all but 0", x, 1, 255, 1);
        x.see(1, false, 1);
        marked("all but 0, and not HAD ahead of its DAY", x, 1, 255, 1);
        x.see(2, false, 20);
        marked("the third has none", x, 1, 255, 1);
        x.see(2, true, 20);
        marked("never both", x, 1, 0, -5);
        x = things(0, 0);
        x.take(0);
        street(x, "need 9;like 9 m=8");
        x.see(1, true, 20);
        marked("255 alone", x, 1, 1, 255);
        street(x, "need 9;like 9 m=0");
        marked("0 alone", x, 1, 1, 0);
        marked("whatever the other has", x, 0, 256, 0);
        x.see(0, false, 0);
        marked("it is HAD", x, 0, 0, -5);
        // its MARKS are these now: what is HAD by them counts
        x = things(7, 4);
        x.take(0);
        x.see(1, true, 2);
        marked("of the one that is HAD", x, 0, 128, 4);
    }

    private static void marked(String what, PickedMatch x, int thing, int many, int least) {
        due(what + ", how many", x.marked(thing, 0), many);
        due(what + ", the least", x.marked(thing, 1), least);
    }

    @Sentence("CAN of one: how many numbers v (0 .. 9) there are by which, were that its v now, all of SEEN is so;"
        + " the least (-5: none).")
    static void can() {
        PickedMatch x = things(0, 0);
        can("nothing is SEEN", x, 10, 0);
        x.take(0);
        x.see(1, true, 2);
        can("none", x, 0, -5);
        String[] tests = {"v>8", "v<1", "v>0", "v<9", "v=5", "v<99"};
        int[] many = {1, 1, 9, 9, 1, 10}, least = {9, 0, 1, 0, 5, 0};
        for (int i = 0; i < 6; i++) {
            street(x, "need 9;like 9 " + tests[i]);
            can(tests[i], x, many[i], least[i]);
        }
        // a BAIT with as many HAD as v is above 0
        x = things(0);
        x.thing(4, 9, 0);
        x.take(0);
        x.see(1, true, 2);
        can("a BAIT behind one", x, 1, 0);
        x.see(-1, true, 0);
        x.see(1, false, 20);
        can("a BAIT that does not go", x, 9, 1);
    }

    private static void can(String what, PickedMatch x, int many, int least) {
        due(what + ", how many", x.can(1, 0), many);
        due(what + ", the least", x.can(1, 1), least);
    }

    private static void odds(PickedMatch x, int n, int q, long above, long below) {
        due("odds of " + n + " and " + q + " above", x.odds(n, q, 0), above);
        due("odds of " + n + " and " + q + " below", x.odds(n, q, 1), below);
    }

    @Sentence("ODDS of n DAYS (0 .. 60) and q (0 .. 6): if the MARKS of one THING, each alike likely, are 0 from now on:"
        + " how likely q or more are HAD behind n: a fraction in lowest terms (NO: there are none).")
    static void odds() {
        odds(new PickedMatch(), 0, 0, NO, NO);
        odds(things(1), 0, 0, 1, 1);
        odds(things(1), 0, 1, 0, 1);
        odds(things(1), 1, 1, 1, 1);
        odds(things(1), 60, 1, 1, 1);
        odds(things(1), 60, 2, 0, 1);
        PickedMatch x = late(0, "t=5&d=9");
        odds(x, -1, 0, NO, NO);
        odds(x, 61, 0, NO, NO);
        odds(x, 0, -1, NO, NO);
        odds(x, 0, 7, NO, NO);
        odds(x, 59, 4, 0, 1);
        odds(x, 60, 4, 1, 1);
        odds(late(1, "t=0&d=0"), 60, 4, 0, 1);
        odds(had(1, 1, 1, 1, 1, 1), 0, 6, 1, 1);
        odds(had(1, 1, 1, 1, 1, 1), 60, 0, 1, 1);
        // with the MARKS of the first one lost it is HAD alone, with those of another that one is not
        x = things(255, 1, 1, 1, 0, 0);
        x.take(0);
        odds(x, 60, 1, 1, 1);
        odds(x, 60, 2, 5, 6);
        odds(x, 60, 3, 5, 6);
        odds(x, 60, 4, 1, 3);
        odds(x, 60, 5, 0, 1);
        x = things(255, 1, 0, 0, 0, 0);
        x.take(0);
        odds(x, 60, 2, 2, 3);
        x = things(255, 1, 0, 0);
        x.take(0);
        odds(x, 60, 2, 1, 2);
        x = things(255, 1, 1);
        x.take(0);
        odds(x, 60, 2, 2, 3);
        odds(x, 60, 3, 0, 1);
    }

    private static void mean(long above, long below, int... marks) {
        due("mean of " + marks.length + " above", things(marks).mean(0), above);
        due("mean of " + marks.length + " below", things(marks).mean(1), below);
    }

    @Sentence("MEAN: how many MARKS all THINGS have, together, by how many they are: a fraction in lowest terms (NO"
        + " likewise).")
    static void mean() {
        mean(NO, NO);
        mean(0, 1, 0);
        mean(0, 1, 0, 0, 0, 0, 0, 0);
        mean(8, 1, 255);
        mean(8, 1, 255, 255, 255, 255, 255, 255);
        mean(1, 6, 0, 0, 0, 0, 0, 64);
        mean(1, 2, 1, 0, 2, 0, 4, 0);
        mean(4, 3, 7, 0, 1);
        mean(47, 6, 255, 255, 255, 255, 255, 127);
    }

    @Sentence("A WEEK told by hand: what goes (0 a DAY, 1 THE NEWEST is put back, if any is HAD, 2 THING n is taken, if it"
        + " is not HAD and GOES then; 10 rows at most):")
    static void week() {
        PickedMatch x = things(1, 2, 3);
        due("-2", x.week(-2, 0), -1);
        due("3", x.week(3, 0), -1);
        due("none is HAD", x.week(1, 0), 1);
        due("as if it were not", x.ends(0), 0);
        due("taken", x.week(2, 1), 2);
        due("it goes", x.ends(0), 2);
        due("taken", x.week(2, 0), 3);
        due("it does not go", x.ends(0), 2);
        due("taken", x.week(2, 1), 4);
        due("it is HAD", x.ends(0), 2);
        due("taken", x.week(2, 2), 5);
        due("it goes", x.ends(0), 6);
        due("taken", x.week(2, 0), 6);
        due("it goes then", x.ends(0), 7);
        due("put", x.week(1, 0), 7);
        due("THE NEWEST", x.ends(0), 6);
        due("a DAY", x.week(0, 0), 8);
        due("THING 0 comes by", x.ends(0), 7);
        due("put", x.week(1, 0), 9);
        due("put", x.week(1, 0), 10);
        due("the tenth", x.ends(0), 2);
        due("an eleventh", x.week(1, 0), -4);
        due("the tenth still", x.ends(0), 2);
        x.week(-1, 0);
        for (int i = 1; i <= 10; i++) due("a DAY", x.week(0, 0), i);
        due("ten DAYS", x.ends(0), 7);
        x = things(1, 1, 1, 1, 1, 1);
        street(x, "hold 2");
        for (int t = 0; t < 6; t++) x.week(2, t);
        due("full behind two", x.ends(0), 3);
    }

    @Sentence("ENDS: which are HAD (bits); how many MARKS any of these has.")
    static void ends() {
        PickedMatch x = new PickedMatch();
        due("no THINGS", x.ends(0), 0);
        due("no THINGS", x.ends(1), 0);
        x = things(255, 0, 3);
        due("an empty WEEK", x.ends(0), 0);
        due("an empty WEEK", x.ends(1), 0);
        x.week(2, 1);
        due("no MARKS", x.ends(0), 2);
        due("no MARKS", x.ends(1), 0);
        x.week(-1, 0);
        x.week(2, 0);
        due("all MARKS", x.ends(1), 8);
        x.week(2, 2);
        due("each counts once", x.ends(0), 5);
        due("each counts once", x.ends(1), 8);
        x = had(3, 6, 0, 128, 0, 0);
        due("as it is now", x.ends(0), 63);
        due("as it is now", x.ends(1), 4);
    }

    @Sentence("A BOOK told by hand: THINGS, MARKS (8 at most):")
    static void book() {
        PickedMatch x = things(1, 2);
        due("no THING -2", x.book(-2, 0), -1);
        due("no THING 2", x.book(2, 0), -1);
        for (int i = 1; i <= 7; i++) due("book", x.book(1, 2), i);
        due("the eighth", x.book(1, 255), 8);
        due("a ninth", x.book(0, 0), -4);
        due("the eighth is looked at", x.looked(), 7);
        x.mark(1, 255);
        due("the others are", x.looked(), 0);
    }

    @Sentence("LOOKED at: the number of the first of these rows by which it is otherwise now (-5: none).")
    static void looked() {
        PickedMatch x = things(0, 255);
        due("an empty BOOK", x.looked(), -5);
        x.book(0, 0);
        x.book(1, 255);
        due("none is otherwise", x.looked(), -5);
        x.mark(1, 254);
        due("the last", x.looked(), 1);
        x.mark(0, 1);
        due("the first", x.looked(), 0);
        x.mark(1, 255);
        due("the first alone", x.looked(), 0);
        x.mark(0, 0);
        due("none again", x.looked(), -5);
        for (int i = 2; i < 8; i++) x.book(0, i == 7 ? 1 : 0);
        due("the eighth", x.looked(), 7);
    }

    /** An ACT of THING 2 of a KIND with this v, then the bodies that ran. */
    private static void deed(int kind, int v, int act, int x, int answer, int... bodies) {
        PickedMatch m = things(0, 0);
        m.thing(kind, v, 0);
        due("KIND " + kind + " act " + act + " of " + x, m.act(2, act, x), answer);
        due("how many ran", m.count(7), bodies.length);
        for (int i = 0; i < bodies.length; i++) due("body " + i, m.trace(i), bodies[i]);
        due("no more", m.trace(bodies.length), -1);
    }

    private static int first(int kind, int act, int x) {
        PickedMatch m = new PickedMatch();
        m.thing(kind, 0, 0);
        return m.act(0, act, x);
    }

    @Sentence("ACTS of a THING with x (wrapping): 0 lies, 1 fits, 2 tells; i its number.")
    static void actsWrap() {
        deed(0, 0, 0, MAX - 2, MAX, 10);
        deed(0, 0, 0, MAX - 1, MIN, 10);
        deed(0, 0, 0, MAX, MIN + 1, 10);
        deed(0, 0, 0, MIN, MIN + 2, 10);
        deed(0, 3, 1, MIN, MAX, 11, 10);
        deed(0, 2, 1, MIN, MIN, 11, 10);
        deed(0, 2, 2, (1 << 30) - 1, MAX - 1, 12, 11, 10);
        deed(0, 2, 2, 1 << 30, MIN, 12, 11, 10);
        deed(0, 2, 2, MAX, -2, 12, 11, 10);
        deed(2, 0, 0, MAX, MAX, 30, 10);
        deed(2, 0, 0, 715827882, MIN, 30, 10);
        due("less the least", first(4, 0, MIN), MIN);
        due("behind the greatest", first(4, 1, MAX), MIN ^ 6);
        deed(5, 0, 2, MIN + 1, -2, 60, 12, 11, 30, 10);
        due("a sum beyond the greatest", first(6, 1, MAX), MIN + 1);
        // (2^30 - 3 + 2) * 2 + 3
        deed(3, 0, 2, (1 << 30) - 3, MIN + 1, 40, 12, 11, 10, 11, 10);
        due("no ACT -1", first(0, -1, 5), 0);
        due("no ACT 3", first(0, 3, 5), 0);
        for (int i = 0; i < 6; i++) {
            PickedMatch m = things(0, 0, 0, 0, 0, 0);
            due("i " + i, m.act(i, 0, 10), 10 + i);
        }
    }

    @Sentence("BODIES: THING: 10 lies: x + i. 11 fits: lies(x) - v. 12 tells: fits(x) * 2.")
    static void bodiesOfThing() {
        deed(0, 9, 0, 5, 7, 10);
        deed(0, 9, 1, 5, -2, 11, 10);
        deed(0, 9, 2, 5, -4, 12, 11, 10);
    }

    @Sentence("GLOVE: 20 fits: super.fits(x) ^ 6.")
    static void bodiesOfGlove() {
        deed(1, 4, 0, 5, 7, 10);
        deed(1, 4, 1, 5, 3 ^ 6, 20, 11, 10);
        deed(1, 4, 2, 5, 2 * (3 ^ 6), 12, 20, 11, 10);
    }

    @Sentence("KEY: 30 lies: super.lies(x * 3).")
    static void bodiesOfKey() {
        deed(2, 4, 0, 5, 17, 30, 10);
        deed(2, 4, 1, 5, 13, 11, 30, 10);
        deed(2, 4, 2, 5, 26, 12, 11, 30, 10);
    }

    @Sentence("LETTER: 40 tells: super.tells(x) + fits(1).")
    static void bodiesOfLetter() {
        deed(3, 4, 0, 5, 7, 10);
        deed(3, 4, 1, 5, 3, 11, 10);
        deed(3, 4, 2, 5, 6 - 1, 40, 12, 11, 10, 11, 10);
    }

    @Sentence("BAIT: 50 lies: -super.lies(x). 51 fits: super.fits(x + 1).")
    static void bodiesOfBait() {
        deed(4, 4, 0, 5, -7, 50, 10);
        deed(4, 4, 1, 5, -12 ^ 6, 51, 20, 11, 50, 10);
        deed(4, 4, 2, 5, 2 * (-12 ^ 6), 12, 51, 20, 11, 50, 10);
    }

    @Sentence("TICKET: 60 tells: super.tells(x - i).")
    static void bodiesOfTicket() {
        deed(5, 4, 0, 5, 17, 30, 10);
        deed(5, 4, 1, 5, 13, 11, 30, 10);
        deed(5, 4, 2, 5, 2 * (11 - 4), 60, 12, 11, 30, 10);
    }

    @Sentence("TOLD: 70 fits: super.fits(x) + super.lies(2). 71 lies: super.lies(x) ^ v.")
    static void bodiesOfTold() {
        deed(6, 4, 0, 5, 7 ^ 4, 71, 10);
        deed(6, 4, 1, 5, (7 ^ 4) - 4 + 4, 70, 11, 71, 10, 10);
        deed(6, 4, 2, 5, 2 * 3 + (3 ^ 4), 40, 12, 70, 11, 71, 10, 10, 70, 11, 71, 10, 10);
    }

    @Sentence("lies(..) and so on: the body of its KIND, or, if that has none, of the next KIND above that has one;")
    static void bodiesFromAbove() {
        int[] lies = {10, 10, 30, 10, 50, 30, 71};
        int[] fits = {11, 20, 11, 11, 51, 11, 70};
        int[] tells = {12, 12, 12, 40, 12, 60, 40};
        for (int kind = 0; kind < 7; kind++) {
            PickedMatch x = new PickedMatch();
            x.thing(kind, 0, 0);
            x.act(0, 0, 1);
            due("lies of " + kind, x.trace(0), lies[kind]);
            x.act(0, 1, 1);
            due("fits of " + kind, x.trace(0), fits[kind]);
            x.act(0, 2, 1);
            due("tells of " + kind, x.trace(0), tells[kind]);
        }
        // from a body of THING on, too: the body of its KIND
        deed(4, 0, 1, 0, -3 ^ 6, 51, 20, 11, 50, 10);
    }

    @Sentence("super.lies(..): so from the KIND above the body's on; all that stands in a body is done from the left on.")
    static void fromTheLeft() {
        // TICKET has no lies: KEY's super.lies is THING's, not KEY's again
        deed(5, 0, 0, 1, 5, 30, 10);
        // TOLD's super.fits is THING's, as LETTER has none; it comes ahead of super.lies, which is THING's
        deed(6, 1, 1, 0, (2 ^ 1) - 1 + 4, 70, 11, 71, 10, 10);
        // LETTER's super.tells comes ahead of fits, which is TOLD's again
        deed(6, 0, 2, 0, 2 * 6 + 7, 40, 12, 70, 11, 71, 10, 10, 70, 11, 71, 10, 10);
    }

    @Sentence("THE TRACE: the numbers of the bodies that ran in the latest act(), as they began; the first 20 are kept.")
    static void trace() {
        PickedMatch x = things(0);
        x.thing(6, 4, 0);
        due("no act() yet", x.trace(0), -1);
        due("no act() yet", x.count(7), 0);
        // no ACT runs more bodies than this one
        x.act(1, 2, 5);
        int[] bodies = {40, 12, 70, 11, 71, 10, 10, 70, 11, 71, 10, 10};
        due("how many", x.count(7), 12);
        for (int i = 0; i < 12; i++) due("body " + i, x.trace(i), bodies[i]);
        for (int i = 12; i <= 21; i++) due("no body " + i, x.trace(i), -1);
        due("no body -1", x.trace(-1), -1);
        x.act(0, 0, 5);
        due("the latest alone", x.count(7), 1);
        due("the latest alone", x.trace(0), 10);
        due("the latest alone", x.trace(1), -1);
    }

    @Sentence("THE IMAGE: THINGS with all that is theirs, HAD, DAY, SEEN, the WEEK, the BOOK, which STREET holds.")
    static void image() {
        PickedMatch x = things(1, 3);
        x.thing(6, 9, 4);
        x.row(2, 3, 9);
        x.take(1);
        x.take(0);
        x.pass(3);
        x.see(1, true, 0);
        x.week(1, 0);
        x.book(0, 1);
        street(x, "need 4;hold 3;like 5 t=0");
        x.image();
        x.thing(4, 0, 0);
        x.mark(0, 255);
        x.mark(2, 0);
        x.row(2, 3, 1);
        x.put();
        x.put();
        x.pass(60);
        x.see(-1, true, 0);
        for (int i = 0; i < 5; i++) x.see(0, true, 20);
        x.week(-1, 0);
        for (int i = 0; i < 10; i++) x.week(0, 0);
        x.book(-1, 0);
        for (int i = 0; i < 8; i++) x.book(2, 77);
        street(x, "need 7");
        due("undo", x.undo(), 3);
        due("THINGS", x.count(0), 3);
        due("no THING 3", x.of(3, 0), -1001);
        due("MARKS", x.of(0, 2) + 256 * x.of(2, 2), 1 + 256 * 4);
        due("KIND", x.of(2, 0), 6);
        due("v", x.of(2, 1), 9);
        due("HAD", x.told(3), 3);
        due("in order", x.of(0, 3), 1);
        due("DAY", x.told(0), 3);
        due("SEEN", x.count(3), 1);
        due("SEEN is so", x.marked(2, 0), 256);
        due("the WEEK", x.count(4), 1);
        due("the WEEK goes", x.ends(0), 2);
        due("the BOOK", x.count(5), 1);
        due("the BOOK is so", x.looked(), -5);
        due("NEED of the STREET", x.told(1), 4);
        due("HOLD of the STREET", x.told(2), 3);
        due("TASTE by the STREET", x.of(0, 4), 5);
        due("the ROW", x.row(2, 3, 0), 9);
        due("how many STREETS came", x.count(1), 2);
        rowsOfTheImage();
    }

    /** As many rows of each come instead of THE IMAGE's, unlike in one column each time. */
    private static void rowsOfTheImage() {
        for (int column = 0; column < 3; column++) {
            PickedMatch x = things(1, 1, 2);
            x.take(0);
            x.see(1, true, 2);
            x.week(2, 1);
            x.book(2, 2);
            x.image();
            x.see(-1, true, 0);
            x.week(-1, 0);
            x.book(-1, 0);
            x.see(column == 0 ? 2 : 1, column != 1, column == 2 ? 1 : 2);
            x.week(column == 0 ? 1 : 2, column == 1 ? 2 : 1);
            x.book(column == 0 ? 1 : 2, column == 1 ? 1 : 2);
            String changed = "column " + column;
            due(changed + ": SEEN is not so", x.can(2, 0), 0);
            due(changed + ": the WEEK goes", x.ends(0), column == 0 ? 0 : column == 1 ? 1 : 3);
            due(changed + ": the BOOK", x.looked(), column == 2 ? -5 : 0);
            x.undo();
            due(changed + ": SEEN is so again", x.can(2, 0), 10);
            due(changed + ": the WEEK goes again", x.ends(0), 3);
            due(changed + ": the BOOK is so again", x.looked(), -5);
        }
    }
}
