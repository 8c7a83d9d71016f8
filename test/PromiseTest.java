/** What the document promises, promise by promise: ordinary calls, the edges that it names, wrong calls. */
public final class PromiseTest {
    private static final long NO = Long.MIN_VALUE;
    private static final int MAX = Integer.MAX_VALUE, MIN = Integer.MIN_VALUE;

    private static int wrong = 0;
    private static int promise = 0;

    private static void due(String call, long got, long want) {
        if (got != want) {
            wrong++;
            System.out.println("promise " + promise + ": " + call + " answered " + got + ", due is " + want);
        }
    }

    private static int street(PickedMatch x, String text) {
        for (int i = 0; i < text.length(); i++) x.feed(text.charAt(i));
        return x.street();
    }

    /** Things of KIND 0 and v 0 with these MARKS. */
    private static PickedMatch things(int... marks) {
        PickedMatch x = new PickedMatch();
        for (int m : marks) x.thing(0, 0, m);
        return x;
    }

    private static void p1New() {
        PickedMatch x = new PickedMatch();
        for (int what = 0; what < 8; what++) due("count " + what, x.count(what), 0);
        int[] told = {0, 1, 6, 0, 0, 0, -5, 0};
        for (int what = 0; what < 8; what++) due("told " + what, x.told(what), told[what]);
        due("undo", x.undo(), -3);
        due("trace", x.trace(0), -1);
        for (int t = 0; t < 6; t++) due("read", x.read(t, 0), NO);
        due("NONE", PickedMatch.NONE, -1);
        due("BAD", PickedMatch.BAD, -2);
        due("STATE", PickedMatch.STATE, -3);
        due("FULL", PickedMatch.FULL, -4);
        due("NO", PickedMatch.NO, NO);
    }

    private static void p2Thing() {
        PickedMatch x = new PickedMatch();
        due("kind -1", x.thing(-1, 10, 256), -1);
        due("kind 7", x.thing(7, 0, 0), -1);
        due("v -1", x.thing(0, -1, 0), -2);
        due("v 10", x.thing(0, 10, 0), -2);
        due("marks -1", x.thing(0, 0, -1), -2);
        due("marks 256", x.thing(0, 0, 256), -2);
        due("none came", x.count(0), 0);
        for (int i = 0; i < 6; i++) due("thing", x.thing(i + 1, i == 0 ? 9 : i, i == 5 ? 255 : i), i);
        due("full", x.thing(0, 0, 0), -4);
        due("kind ahead of full", x.thing(7, 0, 0), -1);
        due("bad ahead of full", x.thing(0, 0, 256), -2);
        due("of", x.of(0, 1), 9);
        due("of", x.of(5, 0), 6);
        due("of", x.of(5, 2), 255);
        due("how many", x.count(0), 6);
        x = new PickedMatch();
        x.image();
        x.thing(6, 1, 1);
        x.row(0, 2, 7);
        x.undo();
        x.thing(6, 1, 1);
        due("a new one's row", x.row(0, 2, 3), 0);
    }

    private static void p3Of() {
        PickedMatch x = new PickedMatch();
        x.thing(0, 3, 7);
        x.thing(1, 4, 12);
        x.thing(2, 5, 240);
        street(x, "like 4 v>3;mind 9 m=3;like 1 w=0;mind 2 w>0");
        due("kind", x.of(2, 0), 2);
        due("v", x.of(1, 1), 4);
        due("marks", x.of(1, 2), 12);
        due("not had", x.of(1, 3), -5);
        due("taste below 0", x.of(0, 4), -8);
        due("taste", x.of(1, 4), 5);
        due("alike of none", x.of(1, 5), 0);
        due("goes", x.of(1, 6), 1);
        x.take(1);
        x.take(2);
        due("had first", x.of(1, 3), 0);
        due("a KEY goes", x.of(2, 3), 1);
        due("had does not go", x.of(1, 6), 0);
        due("its own marks are had", x.of(1, 5), 2);
        due("alike", x.of(0, 5), 1);
        due("taste by w", x.of(1, 4), 2);
        due("does not go", x.of(0, 6), 0);
        due("no thing", x.of(3, 0), -1001);
        due("no thing", x.of(-1, 0), -1001);
        due("no what", x.of(0, 7), -1001);
        due("no what", x.of(0, -1), -1001);
        due("far off", x.of(MAX, MIN), -1001);
    }

    private static void p3Letters() {
        PickedMatch x = new PickedMatch();
        x.thing(0, 6, 1);
        x.thing(4, 7, 31);
        String[] texts = {"like 1 t=1", "like 1 k=4", "like 1 v=7", "like 1 m=5", "like 1 w=1", "like 1 d=3"};
        x.image();
        for (int i = 0; i < 6; i++) {
            due(texts[i], street(x, texts[i]), i);
            due("without", x.of(1, 4), i < 4 ? 1 : 0);
            due("without", x.of(0, 4), 0);
            x.pass(13);
            due("behind 13 days", x.of(1, 4), i == 4 && x.count(2) != 1 ? 0 : 1);
            x.undo();
        }
        x = things(1);
        street(x, "like 1 d=9;like 2 d=0");
        x.pass(9);
        due("d 9", x.of(0, 4), 1);
        x.pass(1);
        due("d modulo 10", x.of(0, 4), 2);
    }

    /** GOES, KIND by KIND, with THING 0 (three MARKS) and maybe THING 1 (one MARK) HAD. */
    private static void p3Kinds() {
        kind("THING alike", 0, 0, 1, 0, 1);
        kind("THING unlike", 0, 0, 8, 0, 0);
        kind("GLOVE as many", 1, 0, 3 | 8, 0, 1);
        kind("GLOVE not as many", 1, 0, 3, 0, 0);
        kind("GLOVE as many, unlike", 1, 0, 56, 0, 0);
        kind("KEY shares with the newest", 2, 0, 1, 0, 0);
        kind("KEY unlike", 2, 0, 8, 0, 0);
        kind("LETTER unlike, more", 3, 0, 240, 0, 1);
        kind("LETTER unlike, as many", 3, 0, 112, 0, 0);
        kind("LETTER alike, more", 3, 0, 31, 0, 0);
        kind("BAIT as GLOVE", 4, 5, 3 | 8, 0, 1);
        kind("BAIT v less than had", 4, 0, 8, 0, 1);
        kind("BAIT v as many as had", 4, 1, 8, 0, 0);
        kind("TICKET even day", 5, 0, 1, 0, 0);
        kind("TICKET odd day", 5, 0, 1, 1, 1);
        kind("TICKET odd day, unlike", 5, 0, 8, 1, 0);
        kind("TOLD as LETTER", 6, 0, 240, 0, 1);
        kind("TOLD by its row", 6, 0, 7, 2, 1);
        kind("TOLD by its row, later", 6, 0, 7, 6, 1);
        kind("TOLD not by its row", 6, 0, 7, 3, 0);
        kind("BAIT alike, not as many", 4, 5, 3, 0, 0);
        kind("BAIT as many, unlike", 4, 5, 56, 0, 0);
        kind("BAIT alike, v less than had", 4, 0, 3, 0, 1);
        kind("TICKET day 3", 5, 0, 1, 3, 1);
        kind("TICKET day 2", 5, 0, 1, 2, 0);
        kind("TICKET day 4", 5, 0, 1, 4, 0);
        kind("TOLD unlike, as many", 6, 0, 112, 0, 0);
        kind("TOLD alike, more", 6, 0, 31, 0, 0);
        PickedMatch x = things(7, 9);
        x.thing(5, 0, 6);
        x.take(0);
        x.take(1);
        due("TICKET even day: alike to an older one", x.of(2, 6), 1);
        x = things(7, 9);
        x.thing(2, 0, 6);
        x.take(0);
        x.take(1);
        due("KEY: only the newest counts", x.of(2, 6), 1);
        x.put();
        due("KEY: and it is another now", x.of(2, 6), 0);
    }

    private static void kind(String what, int kind, int v, int marks, int day, int goes) {
        PickedMatch x = new PickedMatch();
        x.thing(0, 0, 7);
        x.thing(kind, v, marks);
        if (kind == 6) x.row(1, 2, 1);
        due(what + ", none had", x.of(1, 6), 1);
        x.take(0);
        // HOLD 1 keeps the DAYS from taking anything
        street(x, "hold 1");
        x.pass(day);
        due(what + ", full", x.of(1, 6), 0);
        street(x, "hold 2");
        due(what, x.of(1, 6), goes);
    }

    private static void p4Mark() {
        PickedMatch x = things(5, 6);
        due("mark", x.mark(1, 255), 6);
        due("mark", x.mark(1, 0), 255);
        due("the other", x.of(0, 2), 5);
        due("bad", x.mark(1, 256), -2);
        due("bad", x.mark(1, -1), -2);
        due("none", x.mark(2, 256), -1);
        due("none", x.mark(-1, 1), -1);
        due("as it was", x.of(1, 2), 0);
    }

    private static void p5Row() {
        PickedMatch x = new PickedMatch();
        x.thing(6, 0, 1);
        x.thing(3, 0, 1);
        for (int part = 0; part < 4; part++) due("row", x.row(0, part, 6 + part), 0);
        for (int part = 0; part < 4; part++) due("row", x.row(0, part, 0), 6 + part);
        due("none", x.row(0, 4, 99), -1);
        due("none", x.row(0, -1, 1), -1);
        due("none", x.row(2, 0, 1), -1);
        due("none", x.row(-1, 0, 1), -1);
        due("bad", x.row(0, 0, 10), -2);
        due("bad", x.row(1, 0, -1), -2);
        due("another kind", x.row(1, 0, 1), -3);
    }

    private static void p6Take() {
        PickedMatch x = things(1, 3, 2, 8);
        due("take", x.take(1), 1);
        due("take", x.take(2), 2);
        due("had", x.take(1), -3);
        due("does not go", x.take(3), -3);
        due("none", x.take(4), -1);
        due("none", x.take(-1), -1);
        due("take", x.take(0), 3);
        due("had", x.told(3), 7);
        x = things(0, 0);
        due("always, if none", x.take(1), 1);
        due("need", x.take(0), -3);
        street(x, "need 0");
        due("need 0", x.take(0), 2);
    }

    private static void p7Put() {
        PickedMatch x = things(1, 3, 2);
        due("none", x.put(), -3);
        x.take(2);
        x.take(1);
        x.take(0);
        due("newest", x.put(), 0);
        due("newest", x.put(), 1);
        due("still had", x.told(3), 4);
        due("newest", x.put(), 2);
        due("none", x.put(), -3);
    }

    private static void p8Feed() {
        PickedMatch x = new PickedMatch();
        due("bad", x.feed(-1), -2);
        due("bad", x.feed(128), -2);
        due("least", x.feed(0), 1);
        due("greatest", x.feed(127), 2);
        for (int i = 3; i <= 100; i++) due("feed", x.feed('n'), i);
        due("full", x.feed('n'), -4);
        due("bad ahead of full", x.feed(128), -2);
        due("how many", x.count(6), 100);
        x.street();
        due("empty", x.feed('n'), 1);
    }

    private static void p9Street() {
        PickedMatch x = things(1, 2);
        due("empty", x.street(), -10);
        due("need", street(x, "need 2"), 0);
        due("fault", street(x, "need 3;hold"), -21);
        due("the old one holds", x.told(1), 2);
        due("the text is empty", x.count(6), 0);
        for (int i = 1; i < 6; i++) due("street", street(x, "need " + i), i);
        due("newest holds", x.told(1), 5);
        due("full", street(x, "need 9"), -4);
        due("the text stays", x.count(6), 6);
        due("still full", street(x, "x"), -4);
        due("the text stays", x.count(6), 7);
        due("how many", x.count(1), 6);
        due("newest holds", x.told(1), 5);
    }

    private static void p9Faults() {
        fault("need", 4);
        fault("need ", 5);
        fault("need 1 ", 6);
        fault("need 123", 7);
        fault("need  1", 5);
        fault("needs 1", 4);
        fault("Need 1", 0);
        fault(" need 1", 0);
        fault(";need 1", 0);
        fault("need 1;", 7);
        fault("need 1;;", 7);
        fault("need 1; hold 1", 7);
        fault("nold 1", 1);
        fault("hold x", 5);
        fault("like 1", 6);
        fault("like 1;", 6);
        fault("like 1 ", 7);
        fault("like 1  t=1", 7);
        fault("like 1 a=1", 7);
        fault("like 1 t", 8);
        fault("like 1 t!1", 8);
        fault("like 1 t==1", 9);
        fault("like 1 t=", 9);
        fault("like 1 t=123", 11);
        fault("like 1 t=1 ", 10);
        fault("like 1 t=1|", 11);
        fault("like 1 t=1&", 11);
        fault("like 1 t=1&|t=1", 11);
        fault("like 1 t=1)", 10);
        fault("like 1 (t=1", 11);
        fault("like 1 (t=1;", 11);
        fault("like 1 ()", 8);
        fault("like 1 !", 8);
        fault("like 1 !!!!!t=1", 11);
        fault("like 1 (!(!(t=1))))", 11);
        fault("like 1 ((((t=1)|!t=1)))", -1);
        fault("mind 1 (((((t=1)))))", 11);
        fault("mine 1 t=1", 3);
        fault("like 1 t<2;mind 2", 17);
        fault("need 1;need 1;need 1;need 1;need 1;need 1;need 1;need 1;need 1;need 1;", 69);
        fault("need 1;need 1;need 1;need 1;need 1;need 1;need 1;need 1;need 1;need 1;need 1", 69);
        fault("need 1;need 1;need 1;need 1;need 1;need 1;need 1;need 1;need 1;need 1", -1);
        fault("like 1 !!!!t=1", -1);
        fault("like 1 ((((t=1))))", -1);
        fault("like 1 !(!(t=1|t=2)&!!t=3)", -1);
        fault("like 00 (!(!t=1))|((((d>99))))&!!!!w<09", -1);
    }

    /** place -1: the text is whole. */
    private static void fault(String text, int place) {
        PickedMatch x = new PickedMatch();
        due(text, street(x, text), place < 0 ? 0 : -10 - place);
    }

    private static void p9Wishes() {
        wish("t=0|t=1&t=2", true);
        wish("(t=0|t=1)&t=2", false);
        wish("t=1&t=2|t=0", true);
        wish("!t=1", true);
        wish("!t=0", false);
        wish("!!t=0", true);
        wish("!t=1&t=1", false);
        wish("!(t=1&t=1)", true);
        wish("!t=1&!t=2&!t=3", true);
        wish("t=1|t=2|t=0", true);
        wish("t=1|t=2|t=3", false);
        wish("t=0&t=0&t=1", false);
        wish("t<1", true);
        wish("t<0", false);
        wish("t>0", false);
        wish("v>08", true);
        wish("v>9", false);
        wish("v<10", true);
        wish("v=09", true);
        wish("v=90", false);
        wish("!(t=0&(v=9|!k=0))|m=8", false);
    }

    private static void wish(String e, boolean holds) {
        PickedMatch x = new PickedMatch();
        x.thing(0, 9, 1);
        due(e, street(x, "like 7 " + e), 0);
        due(e, x.of(0, 4), holds ? 7 : 0);
        due(e, street(x, "like 1 t=0;mind 42 " + e + ";like 3 t=0"), 1);
        due(e, x.of(0, 4), holds ? -38 : 4);
    }

    private static void p10Told() {
        PickedMatch x = things(1, 3, 2, 12);
        x.pass(2);
        due("day", x.told(0), 2);
        due("need", x.told(1), 1);
        due("hold", x.told(2), 6);
        due("had", x.told(3), 3);
        due("go", x.told(4), 4);
        due("all go", things(1, 2, 3).told(4), 7);
        due("all marks", x.told(5), 3);
        due("twins", x.told(6), 1);
        due("cover", x.told(7), 10);
        due("none", x.told(8), -1);
        due("none", x.told(-1), -1);
        street(x, "hold 3;need 9;hold 2;need 0");
        due("last need", x.told(1), 0);
        due("last hold", x.told(2), 2);
        due("none go", x.told(4), 0);
        street(x, "hold 0");
        due("hold 1, if less", x.told(2), 1);
        due("need without", x.told(1), 1);
        street(x, "hold 99;need 99");
        due("hold", x.told(2), 99);
        due("need", x.told(1), 99);
        street(x, "like 1 t=1");
        due("hold without", x.told(2), 6);
        due("twins", things(240, 15, 3, 48).told(6), 3);
        due("twins of others", things(255, 0, 85, 84).told(6), 23);
        due("one has no twin", things(1).told(6), -5);
        due("cover of no marks", things(0, 0).told(7), 0);
        due("least as bits", things(3, 1, 2, 3).told(7), 1);
        due("fewest first", things(1, 2, 4, 7).told(7), 8);
        due("all", things(1, 2, 4, 8, 16, 32).told(7), 63);
    }

    private static void p11Pass() {
        PickedMatch x = things(1, 2, 3);
        due("bad", x.pass(-1), -2);
        due("bad", x.pass(61), -2);
        due("no day", x.pass(0), 0);
        due("first", x.pass(1), 1);
        due("second does not go", x.pass(1), 1);
        due("third", x.pass(1), 2);
        due("day", x.told(0), 3);
        due("second goes now", x.pass(2), 3);
        due("in order", x.of(1, 3), 2);
        due("in order", x.of(2, 3), 1);
        x = new PickedMatch();
        for (int i = 0; i < 166; i++) x.pass(60);
        due("no things", x.told(0), 9960);
        due("beyond", x.pass(40), -3);
        due("as it was", x.told(0), 9960);
        due("bad ahead of state", x.pass(61), -2);
        due("just", x.pass(39), 0);
        due("last day", x.told(0), 9999);
        due("beyond", x.pass(1), -3);
        due("none", x.pass(0), 0);
        x.thing(0, 0, 1);
        due("asked beyond the last day", x.on(1, 1), 1);
    }

    private static void p12On() {
        PickedMatch x = things(1, 2, 3);
        int[] bits = {0, 1, 1, 5, 5, 7};
        int[] many = {0, 1, 1, 2, 2, 3};
        for (int n = 0; n < 6; n++) {
            due("on which", x.on(n, 0), bits[n]);
            due("on how many", x.on(n, 1), many[n]);
        }
        due("greatest", x.on(60, 0), 7);
        due("none", x.on(99, 2), -1);
        due("none", x.on(1, -1), -1);
        due("bad", x.on(61, 0), -2);
        due("bad", x.on(-1, 1), -2);
        due("changes nothing", x.told(0) + x.told(3), 0);
    }

    /** THING 0 is HAD; by these THING 2 is taken on day 14, 4 on day 40, and the last one on the day by its E. */
    private static PickedMatch late(String last) {
        PickedMatch x = things(1, 0, 0, 0, 0, 0);
        x.take(0);
        due(last, street(x, "need 9;like 9 t=2&d=4&w=1;like 9 t=4&d=0&w=2;like 9 " + last + "&w=3"), 0);
        return x;
    }

    private static void p13Soon() {
        PickedMatch x = things(1, 2, 3);
        int[] soon = {0, 1, 3, 5, -5, -5, -5};
        for (int q = 0; q < 7; q++) due("soon", x.soon(q), soon[q]);
        due("bad", x.soon(7), -2);
        due("bad", x.soon(-1), -2);
        x.take(0);
        due("now", x.soon(1), 0);
        due("changes nothing", x.told(0), 0);
        due("on day 59", late("t=5&d=9").soon(4), 60);
        due("on day 69", late("t=3&d=9").soon(4), -5);
        due("on day 40", late("t=3&d=9").soon(3), 41);
        due("none", new PickedMatch().soon(0), 0);
    }

    private static void p14When() {
        PickedMatch x = things(1, 2, 3);
        due("when", x.when(0), 1);
        due("when", x.when(1), 5);
        due("when", x.when(2), 3);
        due("none", x.when(3), -1);
        due("none", x.when(-1), -1);
        x.take(1);
        due("had", x.when(1), 0);
        due("changes nothing", x.told(0), 0);
        due("on day 59", late("t=5&d=9").when(5), 60);
        due("on day 69", late("t=3&d=9").when(3), -5);
        due("never", things(1, 2).when(1), -5);
    }

    private static void p15Most() {
        PickedMatch x = things(1, 2, 3, 8);
        due("how many", x.most(-1), 3);
        int[] row = {0, 2, 1, -5, -5, -5};
        for (int k = 0; k < 6; k++) due("most", x.most(k), row[k]);
        due("none", x.most(6), -1);
        due("none", x.most(-2), -1);
        x.take(3);
        due("none goes", x.most(-1), 0);
        due("none goes", x.most(0), -5);
        x.put();
        x.take(2);
        due("of those not had", x.most(-1), 2);
        due("of those not had", x.most(0), 0);
        street(x, "hold 2");
        due("hold", x.most(-1), 1);
        street(x, "hold 1;need 0");
        due("hold", x.most(-1), 0);
        // a later THING first lets more be had: the KEY goes with none of what the others have
        x = things(1, 1);
        x.thing(2, 0, 1);
        street(x, "need 0");
        due("the key first", x.most(-1), 3);
        due("the key first", x.most(0), 2);
        due("then the first", x.most(1), 0);
        due("then the second", x.most(2), 1);
        x = things(1, 1, 1, 1, 1, 1);
        due("all", x.most(-1), 6);
        for (int k = 0; k < 6; k++) due("all", x.most(k), k);
        x = new PickedMatch();
        x.thing(0, 0, 0);
        x.thing(0, 0, 0);
        street(x, "like 5 d=1");
        due("today", x.most(-1), 1);
        x.take(0);
        x.pass(1);
        due("a day later", x.most(-1), 1);
    }

    private static void p16Best() {
        PickedMatch x = things(1, 1);
        x.thing(2, 0, 1);
        street(x, "need 0");
        due("start", x.best(0), 2);
        due("nothing is had", x.best(1), -5);
        x.take(0);
        due("back", x.best(1), 0);
        x.put();
        x.take(2);
        due("no better", x.best(1), -5);
        x.take(0);
        due("no better", x.best(1), -5);
        due("none", x.best(2), -1);
        due("none", x.best(-1), -1);
        // behind THING 0 none goes, behind 1 THING 2 and behind 2 THING 1
        x = things(8, 1, 1);
        due("first of several", x.best(0), 1);
        x.take(0);
        due("none goes", x.best(0), -5);
        due("back", x.best(1), 0);
        due("a row of one", things(8).best(0), 0);
        x = new PickedMatch();
        due("no things", x.best(0), -5);
        // each of both, put back, lets the KEY be had as the last: the first by its number
        x = things(3, 3);
        x.thing(2, 0, 4);
        street(x, "like 1 k=2&w=1;hold 2;need 1");
        x.take(1);
        x.take(0);
        due("hold: put back one, take one", x.best(1), -5);
        x = backOfTwo();
        due("first by its number", x.best(1), 0);
        due("changes nothing", x.told(3), 3);
        due("in order", x.of(1, 3), 0);
    }

    /** Two HAD, 1 ahead of 0; nothing goes, but with one HAD alone THING 2 does, and then whichever was put back. */
    private static PickedMatch backOfTwo() {
        PickedMatch x = things(0, 0, 0);
        street(x, "need 0");
        x.take(1);
        x.take(0);
        street(x, "need 5;like 5 t=2&w=1;like 5 t<2&w=2");
        due("none goes now", x.told(4), 0);
        return x;
    }

    private static void p17Reach() {
        PickedMatch x = things(1, 2, 3, 6, 64);
        x.take(0);
        due("had", x.reach(0), -5);
        due("by one", x.reach(1), 1);
        due("goes", x.reach(2), 0);
        due("by one", x.reach(3), 1);
        due("by none", x.reach(4), -5);
        due("none", x.reach(5), -1);
        due("none", x.reach(-1), -1);
        due("changes nothing", x.told(3), 1);
        x = things(1, 3, 6, 12, 24, 48);
        x.take(0);
        int[] reach = {-5, 0, 1, 2, 3, 4};
        for (int t = 0; t < 6; t++) due("reach", x.reach(t), reach[t]);
        x = things(1, 1, 1, 2, 2, 64);
        x.take(0);
        x.mark(2, 3);
        due("by a later one alone", x.reach(3), 1);
        due("by a later one alone", x.reach(4), 1);
        x.mark(4, 64);
        due("by none", x.reach(5), -5);
        x.mark(4, 66);
        due("by two", x.reach(5), 2);
        x = things(3, 2, 1);
        x.take(2);
        due("by an earlier one", x.reach(1), 1);
        x = things(1, 1, 1, 1, 1, 1);
        street(x, "mind 50 t=5&w>0&w<5;need 1");
        due("none had", x.reach(5), 0);
        x.take(0);
        due("by four", x.reach(5), 4);
        street(x, "mind 50 t=5&w>0&w<5;hold 5");
        due("not if it is full", x.reach(5), -5);
        street(x, "mind 50 t=5;hold 6");
        due("never", x.reach(5), -5);
    }

    private static void p18Fitting() {
        PickedMatch x = things(1, 0);
        due("none had", x.fitting(1, 0), 256);
        due("none had", x.fitting(1, 1), 0);
        x.take(0);
        due("how many", x.fitting(1, 0), 128);
        due("least", x.fitting(1, 1), 1);
        due("had", x.fitting(0, 0), 0);
        due("had", x.fitting(0, 1), -5);
        x.mark(0, 6);
        due("how many", x.fitting(1, 0), 192);
        due("least", x.fitting(1, 1), 2);
        street(x, "need 2");
        due("how many", x.fitting(1, 0), 64);
        due("least", x.fitting(1, 1), 6);
        street(x, "need 3");
        due("by none", x.fitting(1, 0), 0);
        due("by none", x.fitting(1, 1), -5);
        street(x, "like 3 m=8;need 4");
        due("by its taste", x.fitting(1, 0), 1);
        due("by its taste", x.fitting(1, 1), 255);
        due("none", x.fitting(2, 0), -1);
        due("none", x.fitting(-1, 0), -1);
        due("none", x.fitting(1, 2), -1);
        due("none", x.fitting(1, -1), -1);
        due("changes nothing", x.of(1, 2), 0);
        x.mark(0, 0);
        street(x, "hold 1");
        due("full", x.fitting(1, 0), 0);
    }

    private static void p19See() {
        PickedMatch x = things(1, 2);
        due("none", x.see(2, true, 21), -1);
        due("none", x.see(-2, true, 0), -1);
        due("bad", x.see(0, true, 21), -2);
        due("bad", x.see(0, true, -1), -2);
        for (int i = 1; i < 6; i++) due("see", x.see(i % 2, false, i == 1 ? 20 : 0), i);
        due("full", x.see(0, true, 0), -4);
        due("bad ahead of full", x.see(0, true, 21), -2);
        due("how many", x.count(3), 5);
        due("empty", x.see(-1, true, 99), 0);
        due("how many", x.count(3), 0);
        due("see", x.see(0, true, 0), 1);
    }

    private static void p20Marked() {
        PickedMatch x = things(1, 2);
        due("nothing seen", x.marked(0, 0), 256);
        due("nothing seen", x.marked(0, 1), 0);
        x.see(1, true, 2);
        due("marks like THING 0's", x.marked(1, 0), 128);
        due("least", x.marked(1, 1), 1);
        due("marks like THING 1's", x.marked(0, 0), 128);
        due("least", x.marked(0, 1), 2);
        x.see(1, true, 1);
        due("by none", x.marked(1, 0), 0);
        due("by none", x.marked(1, 1), -5);
        x.see(-1, true, 0);
        x.see(1, false, 20);
        due("unlike", x.marked(1, 0), 128);
        due("least", x.marked(1, 1), 0);
        x.see(1, true, 20);
        due("never both", x.marked(1, 0), 0);
        x.see(-1, true, 0);
        x.see(0, false, 0);
        due("not had now", x.marked(0, 0), 256);
        x.see(0, true, 1);
        due("had tomorrow", x.marked(0, 0), 256);
        x.take(0);
        due("had now", x.marked(0, 0), 0);
        due("none", x.marked(2, 0), -1);
        due("none", x.marked(-1, 0), -1);
        due("none", x.marked(0, 2), -1);
        due("none", x.marked(0, -1), -1);
        due("changes nothing", x.of(0, 2) + x.told(0), 1);
        x = things(1, 2);
        x.take(0);
        x.pass(3);
        x.see(1, true, 1);
        due("from now on", x.marked(1, 0), 128);
        x.pass(2);
        due("from a later now on", x.marked(1, 0), 128);
        x.pass(1);
        due("it comes by too late", x.marked(1, 0), 0);
    }

    private static void p21Can() {
        PickedMatch x = things(1, 2);
        due("nothing seen", x.can(1, 0), 10);
        due("nothing seen", x.can(1, 1), 0);
        street(x, "like 5 v>6;like 5 v=3");
        x.see(1, true, 2);
        due("four", x.can(1, 0), 4);
        due("least", x.can(1, 1), 3);
        x.see(1, false, 4);
        due("by none", x.can(1, 0), 0);
        due("by none", x.can(1, 1), -5);
        x.see(-1, true, 0);
        x.see(1, false, 20);
        due("six", x.can(1, 0), 6);
        due("least", x.can(1, 1), 0);
        due("none", x.can(2, 0), -1);
        due("none", x.can(-1, 0), -1);
        due("none", x.can(0, 2), -1);
        due("none", x.can(0, -1), -1);
        due("changes nothing", x.of(1, 1), 0);
    }

    private static void p22Odds() {
        PickedMatch x = things(1, 2, 3, 8);
        // with the MARKS of 0, 1, 2, 3 lost there are 1, 2, 1, 3 HAD
        due("above", x.odds(60, 3, 0), 1);
        due("below", x.odds(60, 3, 1), 4);
        due("above", x.odds(60, 2, 0), 1);
        due("below", x.odds(60, 2, 1), 2);
        due("sure", x.odds(60, 1, 0), 1);
        due("sure", x.odds(60, 1, 1), 1);
        due("never", x.odds(60, 6, 0), 0);
        due("never", x.odds(60, 6, 1), 1);
        due("too early", x.odds(0, 1, 0), 0);
        due("none is enough", x.odds(0, 0, 0), 1);
        due("two of four", x.odds(3, 2, 0), 1);
        due("two of four", x.odds(3, 2, 1), 2);
        due("n", x.odds(61, 0, 0), NO);
        due("n", x.odds(-1, 0, 0), NO);
        due("q", x.odds(1, 7, 0), NO);
        due("q", x.odds(1, -1, 0), NO);
        due("part", x.odds(1, 1, 2), NO);
        due("part", x.odds(1, 1, -1), NO);
        due("no things", new PickedMatch().odds(1, 0, 0), NO);
        due("changes nothing", x.of(0, 2), 1);
    }

    private static void p23Mean() {
        due("above", things(1, 3, 7).mean(0), 2);
        due("below", things(1, 3, 7).mean(1), 1);
        due("above", things(255, 255, 0, 0, 0, 1).mean(0), 17);
        due("below", things(255, 255, 0, 0, 0, 1).mean(1), 6);
        due("above", things(1, 1, 0, 0).mean(0), 1);
        due("below", things(1, 1, 0, 0).mean(1), 2);
        due("no marks", things(0, 0, 0).mean(0), 0);
        due("no marks", things(0, 0, 0).mean(1), 1);
        due("part", things(1).mean(2), NO);
        due("part", things(1).mean(-1), NO);
        due("no things", new PickedMatch().mean(0), NO);
        due("no things", new PickedMatch().mean(1), NO);
    }

    private static void p24Week() {
        PickedMatch x = things(1, 2);
        due("none", x.week(3, 0), -1);
        due("none", x.week(-2, 0), -1);
        due("none", x.week(2, 2), -1);
        due("none", x.week(2, -1), -1);
        due("day", x.week(0, -99), 1);
        due("put", x.week(1, 99), 2);
        due("take", x.week(2, 1), 3);
        for (int i = 4; i <= 10; i++) due("week", x.week(0, 0), i);
        due("full", x.week(1, 0), -4);
        due("none ahead of full", x.week(2, 2), -1);
        due("how many", x.count(4), 10);
        due("empty", x.week(-1, 99), 0);
        due("how many", x.count(4), 0);
    }

    private static void p25Ends() {
        PickedMatch x = things(1, 2, 7);
        due("no week", x.ends(0), 0);
        x.week(2, 2);
        due("which", x.ends(0), 4);
        due("how many marks", x.ends(1), 3);
        x.week(2, 1);
        x.week(2, 2);
        due("which", x.ends(0), 6);
        due("how many marks", x.ends(1), 3);
        x.week(1, 0);
        due("put back", x.ends(0), 4);
        x.week(1, 0);
        x.week(1, 0);
        due("none is left", x.ends(0), 0);
        due("no marks", x.ends(1), 0);
        x.week(0, 0);
        due("a day", x.ends(0), 1);
        x.week(2, 1);
        due("does not go", x.ends(0), 1);
        x.week(0, 0);
        x.week(0, 0);
        due("days", x.ends(0), 5);
        due("none", x.ends(2), -1);
        due("none", x.ends(-1), -1);
        due("changes nothing", x.told(0) + x.told(3), 0);
        x.week(-1, 0);
        x.take(0);
        x.week(0, 0);
        x.pass(2);
        due("from now on", x.ends(0), 5);
    }

    private static void p26Book() {
        PickedMatch x = things(1, 2);
        due("none", x.book(2, 256), -1);
        due("none", x.book(-2, 0), -1);
        due("bad", x.book(0, 256), -2);
        due("bad", x.book(0, -1), -2);
        for (int i = 1; i <= 8; i++) due("book", x.book(i % 2, i == 1 ? 255 : 0), i);
        due("full", x.book(0, 1), -4);
        due("bad ahead of full", x.book(0, 256), -2);
        due("how many", x.count(5), 8);
        due("empty", x.book(-1, 999), 0);
        due("how many", x.count(5), 0);
    }

    private static void p27Looked() {
        PickedMatch x = things(1, 2);
        due("no book", x.looked(), -5);
        x.book(1, 2);
        x.book(0, 1);
        due("as it is", x.looked(), -5);
        x.book(1, 3);
        x.book(0, 3);
        due("the first", x.looked(), 2);
        x.mark(0, 3);
        due("an earlier one", x.looked(), 1);
        x.mark(1, 3);
        due("the first row", x.looked(), 0);
    }

    private static PickedMatch told(int... row) {
        PickedMatch x = things(1, 2, 255);
        x.tape(3, 1, row.length);
        for (int i = 0; i < row.length; i++) x.item(3, i, row[i]);
        return x;
    }

    private static void p28Judge() {
        due("as it is", told(1, 2, 255).judge(3, 0), -5);
        due("from 2 on", told(9, 9, 1, 2, 255, 7).judge(3, 2), -5);
        due("the first", told(1, 3, 254).judge(3, 0), 1);
        due("the first", told(0, 2, 255).judge(3, 0), 0);
        due("the last", told(1, 2, -1).judge(3, 0), 2);
        due("it ends", told(1, 2).judge(3, 0), 102);
        due("it ends", told(1, 2, 1).judge(3, 2), 101);
        due("otherwise ahead of the end", told(1, 2, 2).judge(3, 2), 0);
        due("it ends at once", told(1, 2).judge(3, 2), 100);
        due("behind its end", told(1, 2).judge(3, 3), 100);
        due("far behind", told(1, 2).judge(3, MAX), 100);
        due("below 0", told(1, 2, 255).judge(3, -1), 100);
        due("far below", told(1, 2, 255).judge(3, MIN), 100);
        due("an empty row", told().judge(3, 0), 100);
        PickedMatch x = things(1);
        due("holds nothing", x.judge(0, 0), 100);
        due("none", x.judge(6, 0), -1);
        due("none", x.judge(-1, 0), -1);
        for (int sort = 0; sort < 5; sort++) {
            x.tape(0, sort, 1);
            x.item(0, 0, 1);
            due("sort " + sort, x.judge(0, 0), sort == 1 ? -5 : -12);
        }
        due("another sort ahead of the place", x.judge(0, -1), -12);
        x = new PickedMatch();
        due("none to look at", x.judge(0, -1), -5);
        x.tape(0, 2, 1);
        due("another sort", x.judge(0, 0), -12);
    }

    private static void p29Image() {
        PickedMatch x = things(1, 2, 3);
        due("image", x.image(), 3);
        x.thing(0, 0, 0);
        due("image", x.image(), 4);
        due("changes nothing", x.count(0), 4);
        x.mark(0, 9);
        x.undo();
        due("the latest image", x.count(0), 4);
        due("the latest image", x.of(0, 2), 1);
        due("of none", new PickedMatch().image(), 0);
    }

    private static void p30Undo() {
        PickedMatch x = things(1, 2, 3);
        x.thing(6, 4, 8);
        due("no image", x.undo(), -3);
        street(x, "need 0;hold 4");
        x.row(3, 1, 5);
        x.take(2);
        x.take(0);
        x.pass(1);
        x.see(2, true, 0);
        x.week(1, 0);
        x.book(1, 2);
        x.tape(0, 2, 3);
        x.image();
        change(x);
        due("undo", x.undo(), 4);
        due("things", x.count(0), 4);
        due("marks", x.of(1, 2), 2);
        due("row", x.row(3, 1, 6), 5);
        due("had", x.told(3), 5);
        due("had in order", x.of(0, 3), 1);
        due("day", x.told(0), 1);
        due("which street holds", x.told(1), 0);
        due("which street holds", x.told(2), 4);
        due("seen", x.count(3), 1);
        due("seen", x.marked(1, 0), 256);
        due("week", x.count(4), 1);
        due("week", x.ends(0), 4);
        due("book", x.count(5), 1);
        due("book", x.looked(), -5);
        due("streets stay", x.count(1), 2);
        due("the text stays", x.count(6), 1);
        due("tapes stay", x.read(0, 1), 7);
        due("the trace stays", x.count(7), 1);
        due("the trace stays", x.trace(0), 10);
        change(x);
        due("again", x.undo(), 4);
        due("row again", x.row(3, 1, 6), 5);
        due("marks again", x.of(1, 2), 2);
        x = new PickedMatch();
        x.image();
        x.thing(0, 0, 1);
        street(x, "need 7");
        due("none", x.undo(), 0);
        due("no street", x.told(1), 1);
        due("street", street(x, "need 8"), 1);
        due("it holds", x.told(1), 8);
    }

    private static void change(PickedMatch x) {
        x.thing(5, 5, 5);
        x.mark(1, 77);
        x.row(3, 1, 9);
        x.put();
        x.put();
        x.take(3);
        x.pass(9);
        x.see(-1, true, 0);
        x.see(0, true, 3);
        x.see(1, true, 4);
        x.week(-1, 0);
        x.week(0, 0);
        x.week(0, 0);
        x.book(-1, 0);
        x.book(3, 0);
        x.book(2, 0);
        street(x, "need 3");
        x.feed('n');
        x.item(0, 1, 7);
        x.act(0, 0, 1);
    }

    /** An ACT of THING 2 of a KIND, v 4, with x 5; then the bodies that ran. */
    private static void deed(int kind, int act, int answer, int... bodies) {
        PickedMatch x = things(0, 0);
        x.thing(kind, 4, 1);
        String call = "kind " + kind + " act " + act;
        due(call, x.act(2, act, 5), answer);
        due(call + " ran", x.count(7), bodies.length);
        for (int i = 0; i < bodies.length; i++) due(call + " body " + i, x.trace(i), bodies[i]);
        due(call + " no more", x.trace(bodies.length), -1);
        due(call + " none", x.trace(-1), -1);
    }

    private static void p31Act() {
        deed(0, 0, 7, 10);
        deed(0, 1, 3, 11, 10);
        deed(0, 2, 6, 12, 11, 10);
        deed(1, 0, 7, 10);
        deed(1, 1, 3 ^ 6, 20, 11, 10);
        deed(1, 2, 2 * (3 ^ 6), 12, 20, 11, 10);
        deed(2, 0, 17, 30, 10);
        deed(2, 1, 13, 11, 30, 10);
        deed(2, 2, 26, 12, 11, 30, 10);
        deed(3, 0, 7, 10);
        deed(3, 1, 3, 11, 10);
        deed(3, 2, 6 + (3 - 4), 40, 12, 11, 10, 11, 10);
        deed(4, 0, -7, 50, 10);
        deed(4, 1, -12 ^ 6, 51, 20, 11, 50, 10);
        deed(4, 2, 2 * (-12 ^ 6), 12, 51, 20, 11, 50, 10);
        deed(5, 0, 17, 30, 10);
        deed(5, 1, 13, 11, 30, 10);
        deed(5, 2, 2 * (3 * 3 + 2 - 4), 60, 12, 11, 30, 10);
        deed(6, 0, 7 ^ 4, 71, 10);
        deed(6, 1, (7 ^ 4) - 4 + 4, 70, 11, 71, 10, 10);
        deed(6, 2, 6 + ((3 ^ 4) - 4 + 4), 40, 12, 70, 11, 71, 10, 10, 70, 11, 71, 10, 10);
        PickedMatch x = things(0, 0);
        due("no act", x.act(0, 3, 1), 0);
        due("no act", x.act(0, -1, 1), 0);
        due("no thing", x.act(2, 0, 1), 0);
        due("no thing", x.act(-1, 0, 1), 0);
        due("wraps", x.act(1, 0, MAX), MIN);
        due("wraps", x.act(0, 2, 1 << 30), MIN);
        x.thing(2, 0, 0);
        due("wraps", x.act(2, 0, 1 << 30), (1 << 30) * 3 + 2);
    }

    private static void p32Trace() {
        PickedMatch x = things(0);
        due("none yet", x.trace(0), -1);
        x.act(0, 2, 1);
        due("ran", x.count(7), 3);
        x.act(0, 0, 1);
        due("the latest alone", x.count(7), 1);
        due("the latest alone", x.trace(0), 10);
        due("none", x.trace(1), -1);
        due("none", x.trace(-1), -1);
        due("none", x.trace(20), -1);
        due("none", x.trace(MAX), -1);
        x.act(0, 3, 1);
        due("no trace then", x.count(7), 0);
        due("no trace then", x.trace(0), -1);
        x.act(0, 0, 1);
        x.act(9, 0, 1);
        due("no trace then", x.trace(0), -1);
    }

    private static void p33Taken() {
        PickedMatch x = new PickedMatch();
        int[] fits = {0, 1, 2, 3, 4, 5};
        // KIND i + 1 is THING i
        String[] under = {"01", "02", "03", "014", "025", "036"};
        for (int t : fits) {
            x.thing(t + 1, 0, 0);
            for (int k = 0; k < 7; k++) {
                due("taken", x.taken(t, k), under[t].indexOf('0' + k) >= 0 ? t + 1 : -12);
            }
        }
        due("bad", x.taken(9, 7), -2);
        due("bad", x.taken(0, -1), -2);
        due("nothing", x.taken(6, 0), -11);
        due("nothing", x.taken(-1, 6), -11);
        x = things(0);
        due("itself", x.taken(0, 0), 0);
        due("not below", x.taken(0, 1), -12);
    }

    private static void p34Count() {
        PickedMatch x = things(1, 1, 1);
        street(x, "need 0");
        x.take(0);
        x.take(1);
        for (int i = 0; i < 4; i++) x.see(0, true, 0);
        for (int i = 0; i < 5; i++) x.week(0, 0);
        for (int i = 0; i < 6; i++) x.book(0, 0);
        for (int i = 0; i < 7; i++) x.feed('x');
        x.act(0, 1, 1);
        int[] counts = {3, 1, 2, 4, 5, 6, 7, 2};
        for (int what = 0; what < 8; what++) due("count", x.count(what), counts[what]);
        due("bad", x.count(8), -2);
        due("bad", x.count(-1), -2);
    }

    private static void p35Tape() {
        PickedMatch x = new PickedMatch();
        due("none", x.tape(6, 9, -1), -1);
        due("none", x.tape(-1, 0, 1), -1);
        due("bad sort", x.tape(0, 5, -1), -2);
        due("bad sort", x.tape(0, -2, 1), -2);
        due("above 60", x.tape(0, 0, 61), -2);
        due("below 0", x.tape(0, 0, -1), -14);
        due("below 0", x.tape(0, 4, MIN), -14);
        due("60", x.tape(5, 4, 60), 1);
        due("last", x.read(5, 59), 0);
        due("none", x.read(5, 60), NO);
        due("0", x.tape(0, 3, 0), 1);
        due("none", x.read(0, 0), NO);
        due("none", x.item(0, 0, 1), -13);
        x.tape(0, 3, 2);
        x.item(0, 1, 9);
        due("as it was", x.tape(0, 5, 1), -2);
        due("as it was", x.read(0, 1), 9);
        due("all 0", x.tape(0, 3, 2), 1);
        due("all 0", x.read(0, 1), 0);
        x.item(0, 1, 9);
        x.tape(0, 3, 1);
        x.tape(0, 3, 2);
        due("all 0", x.read(0, 1), 0);
        due("nothing", x.tape(0, -1, MIN), 1);
        due("nothing", x.item(0, 0, 1), -11);
        due("nothing", x.read(0, 0), NO);
        due("nothing again", x.tape(0, -1, MAX), 1);
    }

    private static void p36Item() {
        PickedMatch x = new PickedMatch();
        long[] given = {0, 1, 127, 128, 255, 32768, 65535, 1L << 31, 1L << 32, -1, Long.MIN_VALUE, 3};
        for (int sort = 0; sort < 5; sort++) {
            x.tape(sort, sort, 2);
            for (long v : given) {
                due("item", x.item(sort, 1, v), 1);
                long[] want = {(byte) v, (short) v, (int) v, v, v != 0 ? 1 : 0};
                due("sort " + sort + " of " + v, x.read(sort, 1), want[sort]);
                due("the other", x.read(sort, 0), 0);
            }
        }
        due("none", x.item(6, 0, 1), -1);
        due("none", x.item(-1, 0, 1), -1);
        due("nothing", x.item(5, -1, 1), -11);
        due("place", x.item(0, 2, 1), -13);
        due("place", x.item(0, -1, 1), -13);
        due("place", x.item(0, MAX, 1), -13);
        due("place", x.item(0, MIN, 1), -13);
    }

    private static void p37Read() {
        PickedMatch x = new PickedMatch();
        x.tape(0, 3, 2);
        x.tape(1, 3, 1);
        x.item(0, 1, 5);
        x.item(1, 0, 6);
        due("read", x.read(0, 0), 0);
        due("read", x.read(0, 1), 5);
        due("read", x.read(1, 0), 6);
        due("no place", x.read(0, 2), NO);
        due("no place", x.read(0, -1), NO);
        due("no place", x.read(0, 60), NO);
        due("no place", x.read(0, MAX), NO);
        due("no tape", x.read(-1, 0), NO);
        due("no tape", x.read(6, 0), NO);
        due("nothing", x.read(2, 0), NO);
    }

    private static PickedMatch fiveInts() {
        PickedMatch x = new PickedMatch();
        x.tape(0, 2, 5);
        x.tape(1, 2, 3);
        x.tape(2, 3, 5);
        for (int i = 0; i < 5; i++) x.item(0, i, i + 1);
        return x;
    }

    private static void holds(PickedMatch x, int tape, int... items) {
        for (int i = 0; i < items.length; i++) due("item " + i, x.read(tape, i), items[i]);
    }

    private static void p38Shift() {
        PickedMatch x = fiveInts();
        due("up", x.shift(0, 0, 0, 1, 4), 4);
        holds(x, 0, 1, 1, 2, 3, 4);
        x = fiveInts();
        due("down", x.shift(0, 2, 0, 0, 3), 3);
        holds(x, 0, 3, 4, 5, 4, 5);
        due("to another", x.shift(0, 3, 1, 1, 2), 2);
        holds(x, 1, 0, 4, 5);
        due("whole", x.shift(1, 0, 0, 2, 3), 3);
        holds(x, 0, 3, 4, 0, 4, 5);
        due("none of them", x.shift(0, 5, 1, 3, 0), 0);
        due("no tape", x.shift(6, 0, 0, 0, 1), -1);
        due("no tape", x.shift(0, 0, -1, 0, 1), -1);
        due("no tape ahead of nothing", x.shift(3, 0, 6, 0, 1), -1);
        due("nothing", x.shift(3, 0, 2, 0, 1), -11);
        due("nothing", x.shift(2, 0, 3, 0, -1), -11);
        due("unlike", x.shift(0, -1, 2, 0, 1), -12);
        int[][] places = {{-1, 0, 1}, {0, -1, 1}, {0, 0, -1}, {5, 0, 1}, {0, 3, 1}, {0, 0, 4}, {3, 0, 3}, {0, 2, 2},
            {6, 0, 0}, {0, 4, 0}, {MAX, 0, 1}, {0, MAX, 1}, {1, 1, MAX}, {MAX, MAX, MAX}, {MIN, 0, MIN}};
        for (int[] p : places) due("place " + p[0] + " " + p[1] + " " + p[2], x.shift(0, p[0], 1, p[1], p[2]), -13);
        holds(x, 0, 3, 4, 0, 4, 5);
        holds(x, 1, 0, 4, 5);
    }

    private static void first() {
        promise = 1; p1New();
        promise = 2; p2Thing();
        promise = 3; p3Of(); p3Letters(); p3Kinds();
        promise = 4; p4Mark();
        promise = 5; p5Row();
        promise = 6; p6Take();
        promise = 7; p7Put();
        promise = 8; p8Feed();
        promise = 9; p9Street(); p9Faults(); p9Wishes();
        promise = 10; p10Told();
        promise = 11; p11Pass();
        promise = 12; p12On();
        promise = 13; p13Soon();
        promise = 14; p14When();
        promise = 15; p15Most();
        promise = 16; p16Best();
        promise = 17; p17Reach();
        promise = 18; p18Fitting();
        promise = 19; p19See();
    }

    private static void second() {
        promise = 20; p20Marked();
        promise = 21; p21Can();
        promise = 22; p22Odds();
        promise = 23; p23Mean();
        promise = 24; p24Week();
        promise = 25; p25Ends();
        promise = 26; p26Book();
        promise = 27; p27Looked();
        promise = 28; p28Judge();
        promise = 29; p29Image();
        promise = 30; p30Undo();
        promise = 31; p31Act();
        promise = 32; p32Trace();
        promise = 33; p33Taken();
        promise = 34; p34Count();
        promise = 35; p35Tape();
        promise = 36; p36Item();
        promise = 37; p37Read();
        promise = 38; p38Shift();
    }

    public static void main(String[] args) {
        first();
        second();
        System.out.println(wrong == 0 ? "PromiseTest: all answers are as due"
            : "PromiseTest: " + wrong + " answers are not as due");
        System.exit(wrong == 0 ? 0 : 1);
    }
}
