/** The Terms: ALIKE, GOES and how a DAY goes. */
final class GoesBoundaries extends Boundary {
    /** Whether a new THING of this KIND, v and MARKS GOES. */
    private static void goes(String what, PickedMatch x, int kind, int v, int marks, int isSo) {
        int t = x.thing(kind, v, marks);
        due(what, x.of(t, 6), isSo);
    }

    /** As had(), and NEED is n. */
    private static PickedMatch need(int n, int... marks) {
        PickedMatch x = had(marks);
        street(x, "need " + n);
        return x;
    }

    @Sentence("ALIKE of a THING: how many of its MARKS any THING HAD has, too.")
    static void alike() {
        PickedMatch x = things(255, 15, 24, 0, 1);
        for (int t = 0; t < 5; t++) due("none is HAD", x.of(t, 5), 0);
        street(x, "need 0");
        x.take(1);
        int[] byOne = {4, 4, 1, 0, 1};
        for (int t = 0; t < 5; t++) due("one is HAD", x.of(t, 5), byOne[t]);
        x.take(2);
        int[] byTwo = {5, 4, 2, 0, 1};
        for (int t = 0; t < 5; t++) due("two are HAD", x.of(t, 5), byTwo[t]);
        x.take(0);
        int[] byAll = {8, 4, 2, 0, 1};
        for (int t = 0; t < 5; t++) due("all MARKS are HAD", x.of(t, 5), byAll[t]);
        x.mark(0, 0);
        x.mark(1, 0);
        x.mark(2, 0);
        for (int t = 0; t < 5; t++) due("no MARKS are HAD", x.of(t, 5), 0);
    }

    @Sentence("GOES: whether a THING that is not HAD goes with what is HAD:")
    static void hadDoesNotGo() {
        PickedMatch x = things(255, 255);
        due("it is not HAD", x.of(0, 6), 1);
        x.take(0);
        due("it is HAD", x.of(0, 6), 0);
        due("the other is not", x.of(1, 6), 1);
        street(x, "need 0;like 99 t=0");
        due("it is HAD still", x.of(0, 6), 0);
        x.put();
        due("it is not HAD again", x.of(0, 6), 1);
    }

    @Sentence("never, if HOLD or more are HAD;")
    static void holdIsFull() {
        for (int hold = 0; hold <= 7; hold++) {
            for (int had = 0; had <= 5; had++) {
                PickedMatch x = had(new int[had]);
                x.thing(0, 0, 0);
                street(x, "need 0;hold " + hold);
                due("HOLD " + hold + ", HAD " + had, x.of(had, 6), had < Math.max(1, hold) ? 1 : 0);
            }
        }
        // a BAIT and a TOLD go by less, but not when it is full
        PickedMatch x = had(0, 0);
        x.thing(4, 0, 0);
        x.thing(6, 0, 0);
        x.row(3, 0, 2);
        due("not full", x.told(4), 12);
        street(x, "hold 2");
        due("full", x.told(4), 0);
        street(x, "hold 3");
        due("not full", x.told(4), 12);
    }

    @Sentence("always (if fewer are), if none are.")
    static void noneIsHad() {
        PickedMatch x = new PickedMatch();
        for (int kind = 0; kind < 6; kind++) x.thing(kind, 9, kind % 2 == 0 ? 0 : 255);
        street(x, "need 99;mind 99 t<6;hold 0");
        due("each", x.told(4), 63);
        x = new PickedMatch();
        x.thing(6, 9, 0);
        street(x, "need 99;mind 99 t<6;hold 1");
        due("TOLD", x.told(4), 1);
        x = new PickedMatch();
        due("there is none", x.told(4), 0);
    }

    @Sentence("Else: THING: ALIKE and TASTE, together, are NEED or more.")
    static void goesAsThing() {
        for (int need = 0; need <= 9; need++) {
            goes("all alike, NEED " + need, need(need, 255), 0, 0, 255, need <= 8 ? 1 : 0);
            goes("none alike, NEED " + need, need(need, 240), 0, 0, 15, need == 0 ? 1 : 0);
        }
        PickedMatch x = had(7);
        street(x, "need 5;like 2 t=1;like 1 t=2");
        goes("3 and 2", x, 0, 0, 7, 1);
        goes("3 and 1", x, 0, 0, 7, 0);
        x = had(7);
        street(x, "need 0;mind 3 t=1;mind 4 t=2");
        goes("3 less 3", x, 0, 0, 7, 1);
        goes("3 less 4", x, 0, 0, 7, 0);
        x = had(0);
        street(x, "like 99 t=1;need 99;like 98 t=2");
        goes("by TASTE alone", x, 0, 0, 255, 1);
        goes("by TASTE alone, 1 less", x, 0, 0, 255, 0);
    }

    @Sentence("GLOVE: as THING, and some THING HAD has as many MARKS.")
    static void goesAsGlove() {
        // HAD: three MARKS, one MARK
        int[] marks = {0, 2, 3, 7, 15, 56, 32};
        int[] isSo = {0, 1, 0, 1, 0, 0, 0};
        for (int i = 0; i < marks.length; i++) goes("marks " + marks[i], need(1, 7, 1), 1, 0, marks[i], isSo[i]);
        goes("NEED 0, as many", need(0, 7, 1), 1, 0, 56, 1);
        goes("NEED 0, as many as THE NEWEST", need(0, 7, 1), 1, 0, 32, 1);
        goes("NEED 0, none", need(0, 7, 1), 1, 0, 0, 0);
        goes("NEED 0, none as HAD", need(0, 7, 0), 1, 0, 0, 1);
        goes("NEED 8, all", need(8, 255, 0), 1, 0, 255, 1);
        goes("NEED 9, all", need(9, 255, 0), 1, 0, 255, 0);
        // what is not HAD does not count: THING 0, or one that was put back
        PickedMatch x = things(7, 1, 11);
        street(x, "need 0");
        x.take(1);
        goes("as many as one that never was HAD", x, 1, 0, 224, 0);
        x.take(2);
        goes("as many as one that is HAD", x, 1, 0, 224, 1);
        x.put();
        due("as many as one that was HAD", x.of(4, 6), 0);
    }

    @Sentence("KEY: as THING, and none of its MARKS is one of THE NEWEST's.")
    static void goesAsKey() {
        // HAD: bits 0 to 2, then bit 3
        int[] marks = {0, 1, 7, 9, 8, 15, 247, 255, 16};
        int[] isSo = {0, 1, 1, 0, 0, 0, 1, 0, 0};
        for (int i = 0; i < marks.length; i++) goes("marks " + marks[i], need(1, 7, 8), 2, 0, marks[i], isSo[i]);
        goes("NEED 0, no MARKS", need(0, 7, 8), 2, 0, 0, 1);
        goes("NEED 0, unlike", need(0, 7, 8), 2, 0, 16, 1);
        goes("NEED 0, THE NEWEST's", need(0, 7, 8), 2, 0, 8, 0);
        goes("THE NEWEST has none", need(1, 255, 0), 2, 0, 255, 1);
        goes("NEED 8", need(8, 255, 0), 2, 0, 255, 1);
        goes("NEED 9", need(9, 255, 0), 2, 0, 255, 0);
    }

    @Sentence("LETTER: ALIKE and TASTE are less than NEED, and THE NEWEST has fewer MARKS.")
    static void goesAsLetter() {
        // HAD: two MARKS
        int[] marks = {0, 16, 48, 112, 240, 113, 2, 3};
        int[] isSo = {0, 0, 0, 1, 1, 0, 0, 0};
        for (int i = 0; i < marks.length; i++) goes("marks " + marks[i], need(1, 3), 3, 0, marks[i], isSo[i]);
        goes("ALIKE 1, NEED 2", need(2, 3), 3, 0, 113, 1);
        goes("ALIKE 2, NEED 2", need(2, 3), 3, 0, 7, 0);
        goes("ALIKE 2, NEED 3", need(3, 3), 3, 0, 7, 1);
        goes("ALIKE 0, NEED 0", need(0, 3), 3, 0, 240, 0);
        goes("THE NEWEST has as many", need(99, 3, 255), 3, 0, 255, 0);
        goes("THE NEWEST has fewer", need(99, 255, 0), 3, 0, 1, 1);
        goes("THE NEWEST has as few", need(99, 255, 0), 3, 0, 0, 0);
        PickedMatch x = had(3);
        street(x, "need 1;like 1 t=1;mind 1 t=2;like 1 t=3");
        goes("ALIKE 0, TASTE 1", x, 3, 0, 240, 0);
        goes("ALIKE 1, TASTE -1", x, 3, 0, 113, 1);
        goes("ALIKE 1, TASTE 1, each less than NEED or not", x, 3, 0, 113, 0);
        x = had(3);
        street(x, "need 2;like 1 t=1");
        goes("ALIKE 1, TASTE 1, NEED 2", x, 3, 0, 113, 0);
        x = had(3);
        street(x, "need 0;mind 1 t=1");
        goes("TASTE -1, NEED 0", x, 3, 0, 240, 1);
    }

    @Sentence("BAIT: as GLOVE, or v is less than how many are HAD.")
    static void goesAsBait() {
        for (int had = 1; had <= 5; had++) {
            for (int v = 0; v <= 9; v++) {
                goes("v " + v + ", HAD " + had, need(1, new int[had]), 4, v, 0, v < had ? 1 : 0);
            }
        }
        goes("as GLOVE", need(1, 7, 1), 4, 9, 7, 1);
        goes("unlike", need(1, 7, 1), 4, 9, 56, 0);
        goes("not as many", need(1, 7, 1), 4, 9, 3, 0);
        goes("both", need(1, 7, 1), 4, 1, 7, 1);
    }

    /** HAD: bit 0; no DAY has taken anything; HOLD and NEED are as without a STREET again. */
    private static PickedMatch oneHadOn(int day) {
        PickedMatch x = onDay(day);
        x.thing(0, 0, 1);
        x.take(0);
        return x;
    }

    @Sentence("TICKET: as KEY, if DAY is even; else as THING.")
    static void goesAsTicket() {
        for (int day : new int[] {0, 1, 2, 3, 4, 59, 60, 9998, 9999}) {
            int isOdd = day % 2;
            goes("THE NEWEST's, DAY " + day, oneHadOn(day), 5, 0, 1, isOdd);
            goes("unlike, DAY " + day, oneHadOn(day), 5, 0, 2, 0);
            PickedMatch x = oneHadOn(day);
            street(x, "need 0");
            goes("NEED 0, unlike, DAY " + day, x, 5, 0, 2, 1);
            goes("NEED 0, THE NEWEST's, DAY " + day, x, 5, 0, 3, isOdd);
        }
    }

    @Sentence("TOLD: as LETTER, or how many are HAD is its ROW (four numbers 0 .. 9; 0 at first) at DAY modulo 4.")
    static void goesAsTold() {
        // as LETTER
        goes("unlike, more", need(1, 3), 6, 0, 112, 1);
        goes("unlike, as many", need(1, 3), 6, 0, 48, 0);
        goes("alike, more", need(1, 3), 6, 0, 113, 0);
        // 0 at first, and as many are HAD never while one is
        for (int part = 0; part < 4; part++) {
            PickedMatch x = oneHadOn(part);
            int t = x.thing(6, 0, 1);
            due("at first", x.of(t, 6), 0);
            due("0 at first", x.row(t, part, 9), 0);
            due("9", x.of(t, 6), 0);
            due("9", x.row(t, part, 1), 9);
            due("1", x.of(t, 6), 1);
            due("10", x.row(t, part, 10), -2);
            due("-1", x.row(t, part, -1), -2);
            x.row(t, part, 2);
            due("2", x.of(t, 6), 0);
        }
        for (int day : new int[] {0, 1, 2, 3, 4, 5, 7, 8, 9, 9996, 9999}) {
            for (int part = 0; part < 4; part++) {
                PickedMatch x = oneHadOn(day);
                int t = x.thing(6, 0, 1);
                x.row(t, part, 1);
                due("DAY " + day + ", part " + part, x.of(t, 6), day % 4 == part ? 1 : 0);
            }
        }
        for (int had = 1; had <= 5; had++) {
            PickedMatch x = had(new int[had]);
            x.thing(6, 0, 0);
            street(x, "hold 6");
            for (int n = 0; n <= 9; n++) {
                x.row(had, 0, n);
                due("HAD " + had + ", ROW " + n, x.of(had, 6), had == n ? 1 : 0);
            }
        }
    }

    @Sentence("A DAY goes: the THING whose number is DAY modulo how many THINGS there are comes by:")
    static void comesBy() {
        for (int many = 1; many <= 6; many++) {
            PickedMatch x = things(new int[many]);
            street(x, "need 0");
            for (int day = 0; day < 3 * many; day++) {
                x.pass(1);
                due("THING " + day % many + " of " + many, x.of(day % many, 3), 0);
                due("it alone", x.count(2), 1);
                x.put();
            }
        }
        for (int day : new int[] {59, 60, 9998}) {
            PickedMatch x = onDay(day);
            for (int t = 0; t < 6; t++) x.thing(0, 0, 0);
            x.pass(1);
            due("on DAY " + day, x.told(3), 1 << day % 6);
        }
        PickedMatch x = new PickedMatch();
        due("no THINGS", x.pass(2), 0);
        x.thing(0, 0, 0);
        x.thing(0, 0, 0);
        due("0 of two on DAY 2", x.on(1, 0), 1);
        x.thing(0, 0, 0);
        due("2 of three on DAY 2", x.on(1, 0), 4);
    }

    @Sentence("if it is not HAD, and GOES, it is taken (the last of HAD).")
    static void isTaken() {
        PickedMatch x = things(1, 3, 2, 4);
        x.take(1);
        due("it goes", x.pass(1), 2);
        due("the last of HAD", x.of(0, 3), 1);
        due("it is HAD", x.pass(1), 2);
        due("as it was", x.of(1, 3), 0);
        due("it goes", x.pass(1), 3);
        due("the last of HAD", x.of(2, 3), 2);
        due("it does not go", x.pass(1), 3);
        due("not taken", x.of(3, 3), -5);
        street(x, "hold 3;need 0");
        due("full", x.pass(4), 3);
        street(x, "hold 4;need 0");
        due("the last one", x.pass(4), 4);
        due("the last of HAD", x.of(3, 3), 3);
    }

    @Sentence("DAY is 1 more.")
    static void oneMore() {
        PickedMatch x = new PickedMatch();
        x.pass(1);
        due("no THINGS", x.told(0), 1);
        x.thing(0, 0, 1);
        x.thing(0, 0, 2);
        x.pass(1);
        due("taken", x.told(0), 2);
        x.pass(1);
        due("does not go", x.told(0), 3);
        x.pass(1);
        due("is HAD", x.told(0), 4);
        x.pass(60);
        due("60 more", x.told(0), 64);
    }
}
