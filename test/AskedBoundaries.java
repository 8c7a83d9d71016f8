/** The Terms: what is asked, from ON to COVER. */
final class AskedBoundaries extends Boundary {
    @Sentence("All that follows is asked, goes on from how all is (DAYS beyond 9999, too),")
    static void beyondTheLastDay() {
        PickedMatch x = onDay(9999);
        x.thing(0, 0, 1);
        x.thing(0, 0, 1);
        // by DAY 9999 THING 1 comes by, by DAY 10000 THING 0
        due("no DAY goes", x.pass(1), -3);
        due("on 1", x.on(1, 0), 2);
        due("on 2", x.on(2, 0), 3);
        due("on 60", x.on(60, 1), 2);
        due("soon", x.soon(2), 2);
        due("when", x.when(0), 2);
        due("when", x.when(1), 1);
        x.see(0, false, 1);
        x.see(0, true, 20);
        due("marked", x.marked(0, 0), 128);
        due("can", x.can(0, 0), 10);
        due("odds", x.odds(60, 2, 0), 0);
        due("odds", x.odds(60, 1, 0), 1);
        x.week(0, 0);
        due("ends", x.ends(0), 2);
        x.week(0, 0);
        due("ends", x.ends(0), 3);
        due("the DAY", x.told(0), 9999);
        street(x, "need 9;like 9 t=0&d=0");
        due("d is 0 on DAY 10000", x.on(2, 0), 3);
        street(x, "need 9;like 9 t=0&d=9");
        due("and not 9", x.on(2, 0), 2);
        x = onDay(9999);
        x.thing(0, 0, 1);
        x.take(0);
        x.thing(6, 0, 0);
        x.thing(5, 0, 1);
        // 10000 modulo 3 is 1 and modulo 4 is 0
        x.row(1, 0, 1);
        due("TOLD on DAY 10000", x.when(1), 2);
        x.row(1, 0, 0);
        x.row(1, 1, 2);
        // 10003 modulo 3 is 1, but modulo 4 it is 3, and 10009 modulo 4 is 1; the TICKET is HAD then
        due("TOLD on DAY 10009", x.when(1), 11);
        // 10001 is odd
        due("TICKET on DAY 10001", x.when(2), 3);
    }

    @Sentence("ON n DAYS (0 .. 60): which are HAD (bits); how many.")
    static void on() {
        PickedMatch x = late(0, "t=5&d=9");
        due("-1", x.on(-1, 0), -2);
        due("61", x.on(61, 0), -2);
        due("far below", x.on(MIN, 0), -2);
        due("far above", x.on(MAX, 1), -2);
        int[] days = {0, 14, 15, 40, 41, 59, 60};
        int[] which = {1, 1, 5, 5, 21, 21, 53};
        for (int i = 0; i < days.length; i++) {
            due("which behind " + days[i], x.on(days[i], 0), which[i]);
            due("how many behind " + days[i], x.on(days[i], 1), Integer.bitCount(which[i]));
        }
        due("one more comes too late", late(1, "t=0&d=0").on(60, 0), 22);
        x = new PickedMatch();
        due("no THINGS", x.on(0, 0), 0);
        due("no THINGS", x.on(60, 1), 0);
        x = had(0, 0, 0, 0, 0, 0);
        due("all are HAD", x.on(0, 0), 63);
        due("all are HAD", x.on(60, 1), 6);
    }

    @Sentence("SOON of q (0 .. 6): the fewest DAYS (0 .. 60) behind which q or more are HAD (-5: not by then).")
    static void soon() {
        PickedMatch x = late(0, "t=5&d=9");
        due("q -1", x.soon(-1), -2);
        due("q 7", x.soon(7), -2);
        int[] soon = {0, 0, 15, 41, 60, -5, -5};
        for (int q = 0; q <= 6; q++) due("q " + q, x.soon(q), soon[q]);
        due("on DAY 60", late(1, "t=0&d=0").soon(4), -5);
        due("on DAY 60", late(1, "t=0&d=0").soon(3), 41);
        x = had(0, 0, 0, 0, 0, 0);
        for (int q = 0; q <= 6; q++) due("all are HAD, q " + q, x.soon(q), 0);
        x.put();
        due("the last one comes by", x.soon(6), 6);
        x = new PickedMatch();
        due("no THINGS, q 0", x.soon(0), 0);
        due("no THINGS, q 1", x.soon(1), -5);
        due("no THINGS, q 6", x.soon(6), -5);
    }

    @Sentence("WHEN of a THING: the fewest DAYS (0 .. 60) behind which it is HAD (-5: not by then).")
    static void when() {
        PickedMatch x = late(0, "t=5&d=9");
        int[] when = {0, -5, 15, -5, 41, 60};
        for (int t = 0; t < 6; t++) due("THING " + t, x.when(t), when[t]);
        x = late(1, "t=0&d=0");
        due("on DAY 60", x.when(0), -5);
        due("it is HAD", x.when(1), 0);
        due("no such THING", x.when(6), -1);
        due("no such THING", x.when(-1), -1);
        due("it comes by first", things(0).when(0), 1);
    }

    private static void row(PickedMatch x, int... row) {
        due("how many", x.most(-1), row.length);
        for (int k = 0; k < 6; k++) due("the k-th, k " + k, x.most(k), k < row.length ? row[k] : -5);
    }

    @Sentence("MOST: of all rows of THINGS that are not HAD, each of which GOES as it is taken one behind the other today"
        + " (DAY stays), one with the most (of several the first as a row of numbers): how many; the k-th.")
    static void most() {
        row(new PickedMatch());
        row(things(0), 0);
        row(things(1, 1, 1, 1, 1, 1), 0, 1, 2, 3, 4, 5);
        row(had(1, 1, 1, 1, 1, 1));
        PickedMatch x = had(1, 1, 1, 1, 1, 1);
        x.put();
        row(x, 5);
        // none goes behind another one: the first of several
        row(things(1, 2, 4, 8, 16, 32), 0);
        // each row of two that begins with 0 or 1 is as long
        row(things(1, 1, 2, 2), 0, 1);
        row(things(2, 1, 3, 1), 0, 2, 1, 3);
        for (int hold = 1; hold <= 6; hold++) {
            x = things(1, 1, 1, 1, 1, 1);
            street(x, "hold " + hold);
            due("HOLD " + hold, x.most(-1), hold);
            due("HOLD " + hold, x.most(hold - 1), hold - 1);
        }
        x = had(1, 1, 1, 1);
        x.thing(0, 0, 1);
        street(x, "hold 3");
        row(x);
        street(x, "hold 4");
        row(x);
        street(x, "hold 5");
        row(x, 4);
        // DAY stays: the TICKET is as a KEY throughout, or as a THING
        x = things(1);
        x.thing(5, 0, 1);
        row(x, 1, 0);
        x = onDay(1);
        x.thing(0, 0, 1);
        x.thing(5, 0, 1);
        row(x, 0, 1);
    }

    @Sentence("START: the THING that GOES now which, taken first, lets MOST be greatest behind it"
        + " (of several the first; -5: none GOES).")
    static void start() {
        due("no THINGS", new PickedMatch().best(0), -5);
        due("the only one", things(0).best(0), 0);
        due("all are HAD", had(1, 1).best(0), -5);
        due("of several the first", things(1, 1, 1).best(0), 0);
        due("behind each is nothing", things(1, 2, 4).best(0), 0);
        due("behind 1 and 2 is one", things(8, 1, 1).best(0), 1);
        PickedMatch x = things(1, 1);
        x.thing(2, 0, 1);
        street(x, "need 0");
        due("the KEY first", x.best(0), 2);
        x.take(0);
        due("the other goes now", x.best(0), 1);
        x.take(1);
        due("none goes", x.best(0), -5);
        x = things(1, 1);
        street(x, "hold 1");
        due("the one that is let through", x.best(0), 0);
        x.take(1);
        due("full", x.best(0), -5);
    }

    @Sentence("REACH of a THING that is not HAD: the fewest others (0 .. 5) that must be taken ahead of it, today, each as"
        + " it GOES, so that it GOES (-5: by none, or it is HAD).")
    static void reach() {
        // each goes with the one ahead of it alone
        PickedMatch x = things(1, 3, 6, 12, 24, 48);
        for (int t = 0; t < 6; t++) due("none is HAD", x.reach(t), 0);
        x.take(0);
        int[] reach = {-5, 0, 1, 2, 3, 4};
        for (int t = 0; t < 6; t++) due("by " + reach[t], x.reach(t), reach[t]);
        for (int hold = 1; hold <= 6; hold++) {
            street(x = begun(), "hold " + hold);
            for (int t = 1; t < 6; t++) due("HOLD " + hold, x.reach(t), reach[t] + 2 <= hold ? reach[t] : -5);
        }
        x = things(1, 2, 2);
        x.take(0);
        due("not by itself", x.reach(1), -5);
        due("nor by one that does not go", x.reach(2), -5);
        due("it is HAD", x.reach(0), -5);
        // today: the TICKET does not go on an even DAY behind what has its MARK
        x = things(1, 2);
        x.thing(5, 0, 1);
        x.take(0);
        due("on DAY 0", x.reach(2), -5);
        street(x, "need 0");
        due("by another one's being THE NEWEST", x.reach(2), 1);
        street(x, "need 1");
        x.pass(1);
        due("on DAY 1", x.reach(2), 0);
        x = things(3, 1, 2);
        x.take(1);
        due("by THING 0", x.reach(2), 1);
        // a KEY that THING 1 keeps away, and that goes behind two alone: what was tried in vain is not HAD any more
        x = things(1, 2, 4);
        x.take(0);
        x.thing(2, 0, 3);
        street(x, "need 0;mind 9 t=3&w>2");
        due("by THING 2, not by THING 1", x.reach(3), 1);
        x = new PickedMatch();
        due("no such THING", x.reach(0), -1);
    }

    private static PickedMatch begun() {
        PickedMatch x = things(1, 3, 6, 12, 24, 48);
        x.take(0);
        return x;
    }

    @Sentence("BACK: the one of HAD which, were it put back (out of HAD, the others staying in order), lets HAD and MOST,"
        + " together, be greatest, if that is more than it is (of several the first by its number; -5: none).")
    static void back() {
        due("no THINGS", new PickedMatch().best(1), -5);
        due("none is HAD", things(1, 2).best(1), -5);
        due("as many", had(1, 1).best(1), -5);
        // 0 stands in the way of 1 and 2
        PickedMatch x = things(8, 1, 1);
        x.take(0);
        due("one more", x.best(1), 0);
        x = things(8, 1);
        x.take(0);
        due("not more", x.best(1), -5);
        // two KEYS go behind all but THING 2, and what is put back does not go again
        int[][] orders = {{0, 1, 2}, {1, 0, 2}};
        for (int[] order : orders) {
            x = inOrder(order);
            due("THE NEWEST alone", x.best(1), 2);
            due("the rest stays", x.of(order[0], 3) + 10 * x.of(order[1], 3) + 100 * x.of(2, 3), 210);
        }
        due("the one behind is no better", inOrder(2, 0, 1).best(1), -5);
        // either, put back, lets THING 2 be had and be followed by what was put back
        x = things(0, 0, 0);
        street(x, "need 0");
        x.take(1);
        x.take(0);
        street(x, "need 5;like 5 t=2&w=1;like 5 t<2&w=2");
        due("of several the first by its number", x.best(1), 0);
        // what is put back is not HAD any more: it may go again, behind a KEY that it kept away
        x = things(1);
        x.take(0);
        x.thing(2, 0, 3);
        due("it goes again", x.best(1), 0);
        // and its MARKS are no longer alike: no KEY goes without it
        x = had(1, 6);
        x.thing(2, 0, 2);
        x.thing(2, 0, 4);
        street(x, "need 1");
        due("its MARKS are gone, too", x.best(1), -5);
        // the others stay: none of them goes twice
        x = had(1, 1, 1);
        street(x, "need 1");
        due("the others stay", x.best(1), -5);
    }

    private static PickedMatch inOrder(int... order) {
        PickedMatch x = things(1, 2, 12);
        street(x, "need 0");
        for (int t : order) x.take(t);
        x.thing(2, 0, 4);
        x.thing(2, 0, 8);
        street(x, "need 0;mind 99 t<3");
        return x;
    }

    private static void fits(String what, PickedMatch x, int thing, int many, int least) {
        due(what + ", how many", x.fitting(thing, 0), many);
        due(what + ", the least", x.fitting(thing, 1), least);
    }

    @Sentence("FITTING of a THING that is not HAD: how many of 0 .. 255 there are by which, were these its MARKS, it GOES"
        + " now; the least (-5: none, or it is HAD).")
    static void fitting() {
        PickedMatch x = things(0, 0);
        fits("none is HAD", x, 0, 256, 0);
        x.take(0);
        fits("it is HAD", x, 0, 0, -5);
        fits("none", x, 1, 0, -5);
        x.mark(0, 255);
        fits("all but 0", x, 1, 255, 1);
        x.mark(0, 128);
        fits("the half above", x, 1, 128, 128);
        street(x, "need 9;like 9 m=8");
        fits("255 alone", x, 1, 1, 255);
        street(x, "need 9;like 9 m=0");
        fits("0 alone", x, 1, 1, 0);
        street(x, "need 0");
        fits("all", x, 1, 256, 0);
        street(x, "hold 1;need 0");
        fits("full", x, 1, 0, -5);
    }

    @Sentence("TWINS: the two THINGS whose MARKS differ least (as many bits as are unlike; 10 times the lesser and the"
        + " greater number; of several the first; -5: there are not two).")
    static void twins() {
        due("none", new PickedMatch().told(6), -5);
        due("one", things(7).told(6), -5);
        due("two that are unlike in all", things(0, 255).told(6), 1);
        due("two that are alike in all", things(255, 255).told(6), 1);
        due("the last two", things(0, 255, 15, 240, 51, 51).told(6), 45);
        due("the first and the last", things(3, 12, 48, 192, 255, 3).told(6), 5);
        due("of several the first", things(1, 2, 4, 8, 16, 32).told(6), 1);
        due("of several the first", things(0, 255, 15, 240, 15, 240).told(6), 24);
        due("bits, not how many MARKS", things(15, 240, 31).told(6), 2);
        due("HAD or not", had(0, 7, 6).told(6), 12);
    }

    @Sentence("COVER: of all sets of THINGS by which, together, all MARKS are there that any THING has, that with the"
        + " fewest (of several the least as bits).")
    static void cover() {
        due("no THINGS", new PickedMatch().told(7), 0);
        due("no MARKS", things(0, 0, 0, 0, 0, 0).told(7), 0);
        due("one THING", things(255).told(7), 1);
        due("all", things(1, 2, 4, 8, 16, 32).told(7), 63);
        due("all but one", things(1, 2, 4, 8, 0, 32).told(7), 47);
        due("the last one alone", things(1, 2, 4, 8, 16, 31).told(7), 32);
        due("of several the least", things(1, 1, 1).told(7), 1);
        due("of several the least", things(3, 5, 6).told(7), 3);
        due("of several the least", things(4, 3, 5, 6).told(7), 3);
        due("the fewest, not the least", things(1, 2, 3).told(7), 4);
        due("HAD or not", had(1, 2).told(7), 3);
    }
}
