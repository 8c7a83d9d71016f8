/** Promises 1 to 11, sentence by sentence. */
final class ThingPromises extends Boundary {
    @Sentence(promise = 1, value = "No THINGS, no STREET.")
    static void newObject() {
        PickedMatch x = new PickedMatch();
        for (int what = 0; what < 8; what++) due("count " + what, x.count(what), 0);
        due("no THING 0", x.of(0, 0), -1001);
        due("NEED without a STREET", x.told(1), 1);
        due("HOLD without a STREET", x.told(2), 6);
        due("no IMAGE", x.undo(), -3);
        due("no TRACE", x.trace(0), -1);
        due("its first THING", x.thing(0, 0, 0), 0);
        due("its first STREET", street(x, "need 2"), 0);
    }

    @Sentence(promise = 2, value = "A THING: its number.")
    static void thing() {
        PickedMatch x = new PickedMatch();
        for (int t = 0; t < 6; t++) due("thing", x.thing(t + 1, 9 - t, 255 - t), t);
        for (int t = 0; t < 6; t++) {
            due("KIND", x.of(t, 0), t + 1);
            due("v", x.of(t, 1), 9 - t);
            due("MARKS", x.of(t, 2), 255 - t);
            due("not HAD", x.of(t, 3), -5);
        }
        x = things(1);
        x.image();
        x.thing(6, 1, 1);
        x.row(1, 2, 7);
        x.undo();
        due("the number that is free again", x.thing(6, 2, 3), 1);
        due("v", x.of(1, 1), 2);
        due("MARKS", x.of(1, 2), 3);
        due("a ROW of its own", x.row(1, 2, 0), 0);
    }

    @Sentence(promise = 2, value = "NONE: kind;")
    static void thingOfNoKind() {
        PickedMatch x = new PickedMatch();
        for (int kind : new int[] {-1, 7, MIN, MAX}) due("kind " + kind, x.thing(kind, 0, 0), -1);
        due("ahead of BAD", x.thing(7, 10, 256), -1);
        due("none came", x.count(0), 0);
        due("the least", x.thing(0, 0, 0), 0);
        due("the greatest", x.thing(6, 0, 0), 1);
    }

    @Sentence(promise = 2, value = "BAD: v, marks;")
    static void thingIsBad() {
        PickedMatch x = new PickedMatch();
        for (int v : new int[] {-1, 10, MIN, MAX}) due("v " + v, x.thing(0, v, 0), -2);
        for (int marks : new int[] {-1, 256, MIN, MAX}) due("marks " + marks, x.thing(0, 0, marks), -2);
        due("none came", x.count(0), 0);
        due("the least", x.thing(0, 0, 0), 0);
        due("the greatest", x.thing(0, 9, 255), 1);
    }

    @Sentence(promise = 2, value = "FULL: 6.")
    static void thingsAreFull() {
        PickedMatch x = things(0, 0, 0, 0, 0);
        due("the sixth", x.thing(0, 0, 0), 5);
        due("a seventh", x.thing(0, 0, 0), -4);
        due("still 6", x.count(0), 6);
        due("a seventh of no KIND", x.thing(7, 0, 0), -1);
        due("a bad seventh", x.thing(0, 10, 0), -2);
    }

    @Sentence(promise = 3, value = "Of a THING what 0 KIND, 1 v, 2 MARKS,")
    static void ofTold() {
        PickedMatch x = new PickedMatch();
        x.thing(0, 0, 0);
        x.thing(6, 9, 255);
        for (int what = 0; what < 3; what++) due("the least", x.of(0, what), 0);
        due("the greatest KIND", x.of(1, 0), 6);
        due("the greatest v", x.of(1, 1), 9);
        due("the most MARKS", x.of(1, 2), 255);
    }

    @Sentence(promise = 3, value = "3 the how manieth of HAD it is (from 0 on; -5: it is not HAD),")
    static void ofHad() {
        PickedMatch x = things(1, 1, 1, 1, 1, 1);
        for (int t = 5; t >= 0; t--) {
            due("not HAD", x.of(t, 3), -5);
            x.take(t);
            due("the last", x.of(t, 3), 5 - t);
        }
        due("the first still", x.of(5, 3), 0);
        x.put();
        due("not HAD again", x.of(0, 3), -5);
        due("the one ahead of it", x.of(1, 3), 4);
    }

    @Sentence(promise = 3, value = "4 TASTE, 5 ALIKE,")
    static void ofTaste() {
        PickedMatch x = things(255, 255);
        due("TASTE without a STREET", x.of(0, 4), 0);
        due("ALIKE, if none is HAD", x.of(0, 5), 0);
        x.take(1);
        due("ALIKE in all", x.of(0, 5), 8);
        due("ALIKE of one that is HAD", x.of(1, 5), 8);
        street(x, "mind 99 t=0;mind 99 t=0");
        due("TASTE below 0", x.of(0, 4), -198);
        due("TASTE of one that is HAD", x.of(1, 4), 0);
    }

    @Sentence(promise = 3, value = "6 whether it GOES (HAD: 0).")
    static void ofGoes() {
        PickedMatch x = things(1, 1, 2);
        for (int t = 0; t < 3; t++) due("none is HAD", x.of(t, 6), 1);
        x.take(0);
        due("HAD", x.of(0, 6), 0);
        due("it GOES", x.of(1, 6), 1);
        due("it does not", x.of(2, 6), 0);
        street(x, "hold 1");
        due("HOLD are HAD", x.of(1, 6), 0);
    }

    @Sentence(promise = 3, value = "-1001: NONE.")
    static void ofNone() {
        PickedMatch x = things(1, 2);
        for (int t : new int[] {-1, 2, 5, 6, MIN, MAX}) due("no THING " + t, x.of(t, 0), -1001);
        for (int what : new int[] {-1, 7, MIN, MAX}) due("no what " + what, x.of(1, what), -1001);
        due("no THING, no what", x.of(2, 7), -1001);
        due("the last THING, the last what", x.of(1, 6), 1);
    }

    @Sentence(promise = 4, value = "MARKS of a THING become n: what they were.")
    static void mark() {
        PickedMatch x = things(7, 9);
        due("the most", x.mark(0, 255), 7);
        due("none", x.mark(0, 0), 255);
        due("they were none", x.mark(0, 5), 0);
        due("they are", x.of(0, 2), 5);
        due("the other's stay", x.of(1, 2), 9);
        x.take(1);
        due("of one that is HAD", x.mark(1, 4), 9);
        due("it counts at once", x.of(0, 5), 1);
    }

    @Sentence(promise = 4, value = "NONE;")
    static void markOfNone() {
        PickedMatch x = things(7);
        for (int t : new int[] {-1, 1, 6, MIN, MAX}) due("no THING " + t, x.mark(t, 0), -1);
        due("ahead of BAD", x.mark(1, 256), -1);
        due("none there at all", new PickedMatch().mark(0, 0), -1);
        due("as they were", x.of(0, 2), 7);
    }

    @Sentence(promise = 4, value = "BAD.")
    static void markIsBad() {
        PickedMatch x = things(7);
        for (int n : new int[] {-1, 256, MIN, MAX}) due("n " + n, x.mark(0, n), -2);
        due("as they were", x.of(0, 2), 7);
    }

    private static PickedMatch oneTold() {
        PickedMatch x = things(1);
        x.thing(6, 0, 0);
        return x;
    }

    @Sentence(promise = 5, value = "The ROW of a TOLD one becomes n (0 .. 9) for DAYS modulo 4 being part: what it was.")
    static void row() {
        PickedMatch x = oneTold();
        x.take(0);
        for (int part = 0; part < 4; part++) due("0 at first", x.row(1, part, 9), 0);
        for (int part = 0; part < 4; part++) due("the greatest", x.row(1, part, 0), 9);
        for (int part = 0; part < 4; part++) due("the least", x.row(1, part, part), 0);
        for (int part = 0; part < 4; part++) due("each its own", x.row(1, part, 0), part);
        for (int day = 0; day < 9; day++) {
            for (int part = 0; part < 4; part++) {
                x.row(1, part, 1);
                due("DAY " + day + ", part " + part, x.of(1, 6), day % 4 == part ? 1 : 0);
                x.row(1, part, 0);
            }
            x.pass(1);
        }
    }

    @Sentence(promise = 5, value = "NONE: thing, part;")
    static void rowOfNone() {
        PickedMatch x = oneTold();
        for (int t : new int[] {-1, 2, 6, MIN, MAX}) due("no THING " + t, x.row(t, 0, 1), -1);
        for (int part : new int[] {-1, 4, MIN, MAX}) due("no part " + part, x.row(1, part, 1), -1);
        due("ahead of BAD", x.row(1, 4, 10), -1);
        due("ahead of STATE", x.row(0, 4, 1), -1);
        for (int part = 0; part < 4; part++) due("as it was", x.row(1, part, 1), 0);
    }

    @Sentence(promise = 5, value = "BAD;")
    static void rowIsBad() {
        PickedMatch x = oneTold();
        for (int n : new int[] {-1, 10, MIN, MAX}) due("n " + n, x.row(1, 0, n), -2);
        due("ahead of STATE", x.row(0, 0, 10), -2);
        due("as it was", x.row(1, 0, 1), 0);
    }

    @Sentence(promise = 5, value = "STATE: another KIND.")
    static void rowOfAnother() {
        for (int kind = 0; kind < 7; kind++) {
            PickedMatch x = new PickedMatch();
            x.thing(kind, 0, 0);
            due("KIND " + kind, x.row(0, 0, 9), kind == 6 ? 0 : -3);
            due("KIND " + kind, x.row(0, 3, 0), kind == 6 ? 0 : -3);
        }
    }

    @Sentence(promise = 6, value = "A THING is taken: how many are HAD.")
    static void take() {
        PickedMatch x = things(1, 1, 1, 1, 1, 1);
        for (int t = 0; t < 6; t++) {
            due("take", x.take(5 - t), t + 1);
            due("the last of HAD", x.of(5 - t, 3), t);
        }
        due("all", x.told(3), 63);
        due("DAY stays", x.told(0), 0);
    }

    @Sentence(promise = 6, value = "NONE;")
    static void takeNone() {
        PickedMatch x = things(1);
        for (int t : new int[] {-1, 1, 6, MIN, MAX}) due("no THING " + t, x.take(t), -1);
        due("none there at all", new PickedMatch().take(0), -1);
        due("none is HAD", x.count(2), 0);
    }

    @Sentence(promise = 6, value = "STATE: it is HAD, or does not GO.")
    static void takeRefused() {
        PickedMatch x = things(1, 2, 3);
        due("it goes", x.take(0), 1);
        due("it is HAD", x.take(0), -3);
        due("it does not go", x.take(1), -3);
        due("one is HAD", x.told(3), 1);
        due("it goes", x.take(2), 2);
        due("it goes now", x.take(1), 3);
        due("the last is HAD", x.take(1), -3);
        x = things(1, 1, 1);
        street(x, "hold 2");
        x.take(0);
        due("the second of HOLD 2", x.take(1), 2);
        due("a third", x.take(2), -3);
        due("two are HAD", x.count(2), 2);
    }

    @Sentence(promise = 7, value = "THE NEWEST is put back: its number.")
    static void put() {
        PickedMatch x = had(1, 1, 1, 1, 1, 1);
        for (int t = 5; t >= 0; t--) {
            due("put", x.put(), t);
            due("how many", x.count(2), t);
            due("which", x.told(3), (1 << t) - 1);
        }
        due("it may be taken again", x.take(3), 1);
        due("put", x.put(), 3);
    }

    @Sentence(promise = 7, value = "STATE: none is HAD.")
    static void putNone() {
        PickedMatch x = new PickedMatch();
        due("no THINGS", x.put(), -3);
        x.thing(0, 0, 0);
        due("none was taken", x.put(), -3);
        x.take(0);
        due("one is HAD", x.put(), 0);
        due("none is left", x.put(), -3);
        due("how many", x.count(2), 0);
    }

    @Sentence(promise = 8, value = "A sign (0 .. 127) comes behind THE TEXT's: how many it has.")
    static void feedSign() {
        PickedMatch x = new PickedMatch();
        due("the least", x.feed(0), 1);
        due("the greatest", x.feed(127), 2);
        for (int i = 3; i <= 100; i++) due("feed", x.feed('n'), i);
        due("how many", x.count(6), 100);
        x = new PickedMatch();
        feed(x, "need 3");
        due("behind the others", x.feed('4'), 7);
        x.street();
        due("in their order", x.told(1), 34);
        due("the first of the next THE TEXT", x.feed('n'), 1);
    }

    @Sentence(promise = 8, value = "BAD;")
    static void feedIsBad() {
        PickedMatch x = new PickedMatch();
        for (int sign : new int[] {-1, 128, 255, 256, 256 + 'n', MIN, MAX}) due("sign " + sign, x.feed(sign), -2);
        due("none came", x.count(6), 0);
        for (int i = 0; i < 100; i++) x.feed('n');
        due("ahead of FULL", x.feed(-1), -2);
        due("ahead of FULL", x.feed(128), -2);
    }

    @Sentence(promise = 8, value = "FULL.")
    static void feedIsFull() {
        PickedMatch x = new PickedMatch();
        feed(x, "need 7");
        for (int i = 7; i <= 99; i++) x.feed('7');
        due("the hundredth", x.feed('7'), 100);
        due("one more", x.feed('7'), -4);
        due("how many", x.count(6), 100);
        due("the FAULT is in the first 100", x.street(), -17);
        due("empty again", x.feed('7'), 1);
    }

    @Sentence(promise = 9, value = "THE TEXT, which is empty then, is a STREET, and holds: its number.")
    static void street() {
        PickedMatch x = new PickedMatch();
        for (int n = 0; n < 6; n++) {
            due("street", street(x, "need " + (10 + n)), n);
            due("THE TEXT is empty then", x.count(6), 0);
            due("it holds", x.told(1), 10 + n);
            due("how many", x.count(1), n + 1);
        }
        // what stood behind in a longer one is no part of a shorter one
        x = things(0);
        street(x, "like 1 t=0|t=1;need 55");
        due("up to a |", street(x, "like 2 t=0"), 1);
        due("TASTE", x.of(0, 4), 2);
        street(x, "like 1 t=0&t=1;need 55");
        due("up to a &", street(x, "like 3 t=0"), 3);
        due("TASTE", x.of(0, 4), 3);
        due("up to a digit", street(x, "need "), -15);
        street(x, "need 77");
        due("up to the second digit", street(x, "need 7"), 5);
        due("NEED", x.told(1), 7);
        x = things(0);
        street(x, "like 1 (t=0)");
        due("up to a )", street(x, "like 1 (t=0"), -21);
        street(x, "need 1;need 2");
        due("up to a ;", street(x, "need 1"), 2);
        due("NEED", x.told(1), 1);
    }

    @Sentence(promise = 9, value = "FULL: there are 6 (THE TEXT stays);")
    static void streetsAreFull() {
        PickedMatch x = new PickedMatch();
        for (int n = 0; n < 5; n++) street(x, "need " + n);
        due("the sixth", street(x, "need 5"), 5);
        due("a seventh", street(x, "need 6"), -4);
        due("THE TEXT stays", x.count(6), 6);
        due("there are 6", x.count(1), 6);
        due("the sixth holds", x.told(1), 5);
        due("behind what stayed", x.feed('x'), 7);
        due("FULL, and not the FAULT", x.street(), -4);
        due("THE TEXT stays", x.count(6), 7);
        for (int i = 8; i <= 100; i++) x.feed('x');
        due("a full THE TEXT", x.street(), -4);
        due("stays, too", x.count(6), 100);
        x = new PickedMatch();
        for (int n = 0; n < 6; n++) street(x, "need " + n);
        due("an empty THE TEXT", x.street(), -4);
    }

    @Sentence(promise = 9, value = "-10 less the FAULT (the one that held holds).")
    static void streetHasFault() {
        PickedMatch x = new PickedMatch();
        due("an empty THE TEXT", x.street(), -10);
        due("none holds", x.told(1), 1);
        street(x, "need 2");
        due("at its first byte", street(x, "x"), -10);
        due("at its end", street(x, "need 3;hold"), -21);
        due("at the end of 100", street(x, "like 99 t=1" + times("|t=1", 22) + "|"), -110);
        due("the one that held holds", x.told(1), 2);
        due("how many", x.count(1), 1);
        due("THE TEXT is empty then", x.count(6), 0);
        due("the next one", street(x, "need 4"), 1);
    }

    @Sentence(promise = 10, value = "What 0 DAY, 1 NEED, 2 HOLD,")
    static void toldNumbers() {
        PickedMatch x = onDay(9999);
        due("the last DAY", x.told(0), 9999);
        due("NEED without", x.told(1), 1);
        due("HOLD without", x.told(2), 6);
        street(x, "need 99;hold 99");
        due("the greatest NEED", x.told(1), 99);
        due("the greatest HOLD", x.told(2), 99);
        street(x, "need 0;hold 0");
        due("the least NEED", x.told(1), 0);
        due("the least HOLD", x.told(2), 1);
        due("the first DAY", new PickedMatch().told(0), 0);
    }

    @Sentence(promise = 10, value = "3 which are HAD (bits), 4 which GO now (bits), 5 all MARKS of those HAD (bits),"
        + " 6 TWINS (-5), 7 COVER (bits).")
    static void toldBits() {
        PickedMatch x = new PickedMatch();
        int[] empty = {0, 0, 0, -5, 0};
        for (int what = 3; what < 8; what++) due("no THINGS, what " + what, x.told(what), empty[what - 3]);
        x = things(1, 2, 4, 8, 16, 224);
        int[] none = {0, 63, 0, 1, 63};
        for (int what = 3; what < 8; what++) due("none is HAD, what " + what, x.told(what), none[what - 3]);
        street(x, "need 0");
        for (int t = 0; t < 6; t++) x.take(t);
        int[] all = {63, 0, 255, 1, 63};
        for (int what = 3; what < 8; what++) due("all are HAD, what " + what, x.told(what), all[what - 3]);
        x.put();
        due("but one", x.told(3), 31);
        due("that one goes", x.told(4), 32);
        due("its MARKS are none of theirs", x.told(5), 31);
        due("one THING has no twin", things(1).told(6), -5);
        due("two have", things(1, 1).told(6), 1);
    }

    @Sentence(promise = 10, value = "NONE.")
    static void toldNone() {
        PickedMatch x = things(1, 1);
        for (int what : new int[] {-1, 8, MIN, MAX}) due("no what " + what, x.told(what), -1);
    }

    @Sentence(promise = 11, value = "n DAYS (0 .. 60) go: how many are HAD.")
    static void pass() {
        PickedMatch x = new PickedMatch();
        due("no THINGS", x.pass(60), 0);
        due("DAY", x.told(0), 60);
        x = things(1, 1, 1);
        due("no DAY", x.pass(0), 0);
        due("DAY stays", x.told(0), 0);
        for (int n = 1; n <= 3; n++) due("one DAY", x.pass(1), n);
        due("60 DAYS", x.pass(60), 3);
        due("DAY", x.told(0), 63);
        x = things(1, 1, 1, 1, 1, 1);
        due("five DAYS", x.pass(5), 5);
        x = late(0, "t=5&d=9");
        due("59 DAYS", x.pass(59), 3);
        due("one more", x.pass(1), 4);
        x = late(0, "t=5&d=9");
        due("60 DAYS at once", x.pass(60), 4);
        due("in order", x.of(0, 3) + 10 * x.of(2, 3) + 100 * x.of(4, 3) + 1000 * x.of(5, 3), 3210);
    }

    @Sentence(promise = 11, value = "BAD;")
    static void passIsBad() {
        PickedMatch x = things(1);
        for (int n : new int[] {-1, 61, MIN, MAX}) due("n " + n, x.pass(n), -2);
        due("no DAY went", x.told(0), 0);
        due("none is HAD", x.count(2), 0);
        x = onDay(9999);
        due("ahead of STATE", x.pass(61), -2);
        due("ahead of STATE", x.pass(MAX), -2);
    }

    @Sentence(promise = 11, value = "STATE: DAY would be above 9999.")
    static void passIsOver() {
        PickedMatch x = onDay(9960);
        x.thing(0, 0, 0);
        due("up to 10000", x.pass(40), -3);
        due("up to 10020", x.pass(60), -3);
        due("no DAY went", x.told(0), 9960);
        due("none was taken", x.count(2), 0);
        due("up to 9999", x.pass(39), 1);
        due("the last DAY", x.told(0), 9999);
        due("one more", x.pass(1), -3);
        due("none more", x.pass(0), 1);
        due("the last DAY", x.told(0), 9999);
        x = onDay(9939);
        due("60 up to 9999", x.pass(60), 0);
        x = onDay(9940);
        due("60 up to 10000", x.pass(60), -3);
    }
}
