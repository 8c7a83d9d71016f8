/** Promises 12 to 18 and 20 to 23, sentence by sentence: what is only asked. */
final class SearchPromises extends Boundary {
    private static final int[] NO_THINGS_OF_TWO = {-1, 2, 6, MIN, MAX};
    private static final int[] NO_WHATS = {-1, 2, MIN, MAX};

    @Sentence(promise = 12, value = "ON: what 0 which (bits), 1 how many.")
    static void on() {
        PickedMatch x = things(1, 3, 2);
        int[] which = {0, 1, 3, 7, 7};
        for (int n = 0; n < 5; n++) {
            due("which behind " + n, x.on(n, 0), which[n]);
            due("how many behind " + n, x.on(n, 1), Integer.bitCount(which[n]));
        }
        due("which behind 60", x.on(60, 0), 7);
        due("how many behind 60", x.on(60, 1), 3);
    }

    @Sentence(promise = 12, value = "NONE;")
    static void onNone() {
        PickedMatch x = things(1, 1);
        for (int what : NO_WHATS) due("no what " + what, x.on(0, what), -1);
        due("ahead of BAD", x.on(61, 2), -1);
    }

    @Sentence(promise = 12, value = "BAD: n.")
    static void onIsBad() {
        PickedMatch x = things(1, 1);
        for (int n : new int[] {-1, 61, MIN, MAX}) {
            due("n " + n, x.on(n, 0), -2);
            due("n " + n, x.on(n, 1), -2);
        }
        due("0", x.on(0, 1), 0);
        due("60", x.on(60, 1), 2);
    }

    @Sentence(promise = 13, value = "SOON; -5.")
    static void soon() {
        PickedMatch x = things(1, 1);
        int[] soon = {0, 1, 2, -5, -5, -5, -5};
        for (int q = 0; q < 7; q++) due("q " + q, x.soon(q), soon[q]);
        due("behind 60", late(0, "t=5&d=9").soon(4), 60);
        due("behind 61", late(1, "t=0&d=0").soon(4), -5);
    }

    @Sentence(promise = 13, value = "BAD.")
    static void soonIsBad() {
        PickedMatch x = things(1, 1);
        for (int q : new int[] {-1, 7, MIN, MAX}) due("q " + q, x.soon(q), -2);
    }

    @Sentence(promise = 14, value = "WHEN; -5.")
    static void when() {
        PickedMatch x = things(1, 1, 2);
        x.take(1);
        due("it is HAD", x.when(1), 0);
        due("behind one", x.when(0), 1);
        due("never", x.when(2), -5);
        due("behind 60", late(0, "t=5&d=9").when(5), 60);
        due("behind 61", late(1, "t=0&d=0").when(0), -5);
    }

    @Sentence(promise = 14, value = "NONE.")
    static void whenNone() {
        PickedMatch x = things(1, 1);
        for (int t : NO_THINGS_OF_TWO) due("no THING " + t, x.when(t), -1);
        due("none there at all", new PickedMatch().when(0), -1);
    }

    @Sentence(promise = 15, value = "MOST: k -1 how many, else the k-th (-5: there are fewer).")
    static void most() {
        for (int many = 0; many <= 6; many++) {
            PickedMatch x = things(new int[many]);
            street(x, "need 0");
            due("how many of " + many, x.most(-1), many);
            for (int k = 0; k < 6; k++) due("the k-th of " + many + ", k " + k, x.most(k), k < many ? k : -5);
        }
    }

    @Sentence(promise = 15, value = "NONE: k (-1 .. 5).")
    static void mostNone() {
        PickedMatch x = things(1, 1, 1, 1, 1, 1);
        for (int k : new int[] {-2, 6, MIN, MAX}) due("no k " + k, x.most(k), -1);
        due("-1", x.most(-1), 6);
        due("5", x.most(5), 5);
    }

    @Sentence(promise = 16, value = "What 0 START, 1 BACK; -5.")
    static void best() {
        PickedMatch x = new PickedMatch();
        due("no THINGS: START", x.best(0), -5);
        due("no THINGS: BACK", x.best(1), -5);
        x = things(8, 1, 1);
        due("START", x.best(0), 1);
        due("none is HAD: BACK", x.best(1), -5);
        x.take(0);
        due("none goes: START", x.best(0), -5);
        due("BACK", x.best(1), 0);
        x.put();
        x.take(1);
        due("START", x.best(0), 2);
        due("none is better: BACK", x.best(1), -5);
    }

    @Sentence(promise = 16, value = "NONE.")
    static void bestNone() {
        PickedMatch x = things(1, 1);
        for (int what : NO_WHATS) due("no what " + what, x.best(what), -1);
    }

    @Sentence(promise = 17, value = "REACH; -5.")
    static void reach() {
        PickedMatch x = things(1, 3, 2, 4);
        for (int t = 0; t < 4; t++) due("by none ahead", x.reach(t), 0);
        x.take(0);
        int[] reach = {-5, 0, 1, -5};
        for (int t = 0; t < 4; t++) due("THING " + t, x.reach(t), reach[t]);
    }

    @Sentence(promise = 17, value = "NONE.")
    static void reachNone() {
        PickedMatch x = things(1, 1);
        for (int t : NO_THINGS_OF_TWO) due("no THING " + t, x.reach(t), -1);
        due("none there at all", new PickedMatch().reach(0), -1);
    }

    @Sentence(promise = 18, value = "FITTING: what 0 how many (HAD: 0),")
    static void fittingMany() {
        PickedMatch x = things(0, 0);
        due("all", x.fitting(1, 0), 256);
        x.take(0);
        due("none", x.fitting(1, 0), 0);
        due("HAD", x.fitting(0, 0), 0);
        x.mark(0, 1);
        due("half", x.fitting(1, 0), 128);
        due("HAD", x.fitting(0, 0), 0);
    }

    @Sentence(promise = 18, value = "1 the least; -5.")
    static void fittingLeast() {
        PickedMatch x = things(0, 0);
        due("0", x.fitting(1, 1), 0);
        x.take(0);
        due("none", x.fitting(1, 1), -5);
        due("HAD", x.fitting(0, 1), -5);
        x.mark(0, 128);
        due("128", x.fitting(1, 1), 128);
        x.mark(0, 255);
        street(x, "need 8");
        due("255", x.fitting(1, 1), 255);
        street(x, "need 9");
        due("none", x.fitting(1, 1), -5);
    }

    @Sentence(promise = 18, value = "NONE.")
    static void fittingNone() {
        PickedMatch x = things(1, 1);
        x.take(0);
        for (int t : NO_THINGS_OF_TWO) due("no THING " + t, x.fitting(t, 0), -1);
        for (int what : NO_WHATS) {
            due("no what " + what, x.fitting(1, what), -1);
            due("no what " + what + " of one that is HAD", x.fitting(0, what), -1);
        }
    }

    /** THING 0 is HAD, and THING 1 is SEEN behind two DAYS. */
    private static PickedMatch seenBehindTwo(int marks) {
        PickedMatch x = things(marks, 0);
        x.take(0);
        x.see(1, true, 2);
        return x;
    }

    @Sentence(promise = 20, value = "MARKED: what 0 how many, 1 the least; -5.")
    static void marked() {
        due("nothing is SEEN", things(0).marked(0, 0), 256);
        due("nothing is SEEN", things(0).marked(0, 1), 0);
        due("by none", seenBehindTwo(0).marked(1, 0), 0);
        due("by none", seenBehindTwo(0).marked(1, 1), -5);
        due("half", seenBehindTwo(128).marked(1, 0), 128);
        due("the least", seenBehindTwo(128).marked(1, 1), 128);
        PickedMatch x = seenBehindTwo(255);
        street(x, "need 8");
        due("one", x.marked(1, 0), 1);
        due("the greatest", x.marked(1, 1), 255);
    }

    @Sentence(promise = 20, value = "NONE.")
    static void markedNone() {
        PickedMatch x = things(1, 1);
        for (int t : NO_THINGS_OF_TWO) due("no THING " + t, x.marked(t, 0), -1);
        for (int what : NO_WHATS) due("no what " + what, x.marked(1, what), -1);
    }

    @Sentence(promise = 21, value = "CAN: what 0 how many, 1 the least; -5.")
    static void can() {
        due("nothing is SEEN", things(0).can(0, 0), 10);
        due("nothing is SEEN", things(0).can(0, 1), 0);
        PickedMatch x = seenBehindTwo(0);
        due("by none", x.can(1, 0), 0);
        due("by none", x.can(1, 1), -5);
        street(x, "like 1 v=9");
        due("one", x.can(1, 0), 1);
        due("the greatest", x.can(1, 1), 9);
        street(x, "like 1 v>0");
        due("nine", x.can(1, 0), 9);
        due("the least", x.can(1, 1), 1);
    }

    @Sentence(promise = 21, value = "NONE.")
    static void canNone() {
        PickedMatch x = things(1, 1);
        for (int t : NO_THINGS_OF_TWO) due("no THING " + t, x.can(t, 0), -1);
        for (int what : NO_WHATS) due("no what " + what, x.can(1, what), -1);
    }

    @Sentence(promise = 22, value = "ODDS; part 0 above, 1 below the line.")
    static void odds() {
        PickedMatch x = things(1, 1, 1);
        due("never: above", x.odds(60, 4, 0), 0);
        due("never: below", x.odds(60, 4, 1), 1);
        due("two of three: above", x.odds(60, 2, 0), 2);
        due("two of three: below", x.odds(60, 2, 1), 3);
        due("sure: above", x.odds(60, 1, 0), 1);
        due("sure: below", x.odds(60, 1, 1), 1);
        x = things(255, 1, 1, 1, 0, 0);
        x.take(0);
        due("one of three: above", x.odds(60, 4, 0), 1);
        due("one of three: below", x.odds(60, 4, 1), 3);
        due("five of six: above", x.odds(60, 3, 0), 5);
        due("five of six: below", x.odds(60, 3, 1), 6);
    }

    @Sentence(promise = 22, value = "NO.")
    static void oddsNone() {
        PickedMatch x = things(1, 1);
        for (int n : new int[] {-1, 61, MIN, MAX}) due("n " + n, x.odds(n, 0, 0), NO);
        for (int q : new int[] {-1, 7, MIN, MAX}) due("q " + q, x.odds(0, q, 1), NO);
        for (int part : NO_WHATS) due("part " + part, x.odds(0, 0, part), NO);
        due("no THINGS", new PickedMatch().odds(0, 0, 0), NO);
        due("no THINGS", new PickedMatch().odds(0, 0, 1), NO);
        due("the greatest", x.odds(60, 6, 1), 1);
        due("the least", x.odds(0, 0, 0), 1);
    }

    @Sentence(promise = 23, value = "MEAN; part likewise.")
    static void mean() {
        due("no MARKS: above", things(0, 0).mean(0), 0);
        due("no MARKS: below", things(0, 0).mean(1), 1);
        due("all MARKS: above", things(255, 255).mean(0), 8);
        due("all MARKS: below", things(255, 255).mean(1), 1);
        due("half a MARK: above", things(0, 1).mean(0), 1);
        due("half a MARK: below", things(0, 1).mean(1), 2);
    }

    @Sentence(promise = 23, value = "NO.")
    static void meanNone() {
        due("no THINGS", new PickedMatch().mean(0), NO);
        due("no THINGS", new PickedMatch().mean(1), NO);
        for (int part : NO_WHATS) due("part " + part, things(1).mean(part), NO);
    }
}
