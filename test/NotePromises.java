/** Promises 19 and 24 to 38, sentence by sentence: what is told by hand, THE IMAGE, ACTS, TAPES. */
final class NotePromises extends Boundary {
    @Sentence(promise = 19, value = "What is SEEN comes: how many there are")
    static void see() {
        PickedMatch x = things(1, 1);
        due("none yet", x.count(3), 0);
        for (int i = 1; i <= 5; i++) {
            due("see", x.see(i % 2, i % 2 == 0, i == 5 ? 20 : 0), i);
            due("how many", x.count(3), i);
        }
    }

    @Sentence(promise = 19, value = "(thing -1: none then, 0, whatever the others are).")
    static void seeNoMore() {
        PickedMatch x = things(1, 1);
        due("none there were", x.see(-1, true, 0), 0);
        for (int n : new int[] {0, 20, 21, -1, MIN, MAX}) {
            for (int i = 0; i < 5; i++) x.see(0, true, 0);
            due("n " + n, x.see(-1, n % 2 == 0, n), 0);
            due("none then", x.count(3), 0);
            due("nothing is SEEN", x.marked(0, 0), 256);
        }
        due("the first again", x.see(0, true, 0), 1);
    }

    @Sentence(promise = 19, value = "NONE;")
    static void seeNone() {
        PickedMatch x = things(1, 1);
        for (int t : new int[] {-2, 2, 6, MIN, MAX}) due("no THING " + t, x.see(t, true, 0), -1);
        due("ahead of BAD", x.see(2, true, 21), -1);
        due("how many", x.count(3), 0);
    }

    @Sentence(promise = 19, value = "BAD: n;")
    static void seeBad() {
        PickedMatch x = things(1, 1);
        for (int n : new int[] {-1, 21, MIN, MAX}) due("n " + n, x.see(0, true, n), -2);
        due("how many", x.count(3), 0);
        due("0", x.see(0, true, 0), 1);
        due("20", x.see(1, true, 20), 2);
    }

    @Sentence(promise = 19, value = "FULL: 5.")
    static void seeFull() {
        PickedMatch x = things(1, 1);
        for (int i = 1; i <= 4; i++) x.see(0, false, 0);
        due("the fifth", x.see(0, false, 0), 5);
        due("a sixth", x.see(0, true, 0), -4);
        due("how many", x.count(3), 5);
        due("the five are so", x.marked(1, 0), 256);
        due("a sixth of no THING", x.see(2, true, 0), -1);
        due("a bad sixth", x.see(0, true, 21), -2);
    }

    @Sentence(promise = 24, value = "What goes comes to the WEEK: how many there are")
    static void week() {
        PickedMatch x = things(1, 1);
        for (int i = 1; i <= 10; i++) {
            due("week", x.week(i % 3, 1), i);
            due("how many", x.count(4), i);
        }
    }

    @Sentence(promise = 24, value = "(what -1: it is empty then, 0, whatever the other is).")
    static void weekNoMore() {
        PickedMatch x = things(1, 1);
        due("none there were", x.week(-1, 0), 0);
        for (int n : new int[] {0, -1, 2, MIN, MAX}) {
            for (int i = 0; i < 10; i++) x.week(0, 0);
            due("n " + n, x.week(-1, n), 0);
            due("empty then", x.count(4), 0);
            due("nothing goes", x.ends(0), 0);
        }
        due("the first again", x.week(0, 0), 1);
    }

    @Sentence(promise = 24, value = "NONE: what (0 .. 2), THING (by 2; by 0, 1 n does not matter);")
    static void weekNone() {
        PickedMatch x = things(1, 1);
        for (int what : new int[] {-2, 3, MIN, MAX}) due("no what " + what, x.week(what, 0), -1);
        for (int t : new int[] {-1, 2, 6, MIN, MAX}) due("no THING " + t, x.week(2, t), -1);
        due("how many", x.count(4), 0);
        int[] others = {-1, 2, 6, MIN, MAX};
        for (int i = 0; i < 5; i++) {
            due("a DAY with " + others[i], x.week(0, others[i]), 2 * i + 1);
            due("put back with " + others[i], x.week(1, others[i]), 2 * i + 2);
        }
        x.week(-1, 0);
        due("the first THING", x.week(2, 0), 1);
        due("the last THING", x.week(2, 1), 2);
    }

    @Sentence(promise = 24, value = "FULL: 10.")
    static void weekFull() {
        PickedMatch x = things(1, 1);
        for (int i = 1; i <= 9; i++) x.week(2, 0);
        due("the tenth", x.week(2, 0), 10);
        due("an eleventh", x.week(2, 1), -4);
        due("how many", x.count(4), 10);
        due("the ten go", x.ends(0), 1);
        due("an eleventh of no THING", x.week(2, 2), -1);
        due("no such eleventh", x.week(3, 0), -1);
    }

    @Sentence(promise = 25, value = "ENDS: what 0 which (bits), 1 how many MARKS.")
    static void ends() {
        PickedMatch x = things(1, 3);
        due("none is HAD", x.ends(0), 0);
        due("none is HAD", x.ends(1), 0);
        x.week(2, 1);
        due("which", x.ends(0), 2);
        due("how many MARKS", x.ends(1), 2);
        x.week(2, 0);
        due("all", x.ends(0), 3);
        due("how many MARKS", x.ends(1), 2);
    }

    @Sentence(promise = 25, value = "NONE.")
    static void endsNone() {
        for (int what : new int[] {-1, 2, MIN, MAX}) due("no what " + what, things(1).ends(what), -1);
    }

    @Sentence(promise = 26, value = "A row comes to the BOOK: how many there are")
    static void book() {
        PickedMatch x = things(1, 1);
        for (int i = 1; i <= 8; i++) {
            due("book", x.book(i % 2, i == 8 ? 255 : 0), i);
            due("how many", x.count(5), i);
        }
    }

    @Sentence(promise = 26, value = "(thing -1: it is empty then, 0, whatever the other is).")
    static void bookNoMore() {
        PickedMatch x = things(1, 1);
        due("none there were", x.book(-1, 0), 0);
        for (int marks : new int[] {0, 255, 256, -1, MIN, MAX}) {
            for (int i = 0; i < 8; i++) x.book(0, 0);
            due("otherwise", x.looked(), 0);
            due("marks " + marks, x.book(-1, marks), 0);
            due("empty then", x.count(5), 0);
            due("none is otherwise", x.looked(), -5);
        }
        due("the first again", x.book(0, 0), 1);
    }

    @Sentence(promise = 26, value = "NONE;")
    static void bookNone() {
        PickedMatch x = things(1, 1);
        for (int t : new int[] {-2, 2, 6, MIN, MAX}) due("no THING " + t, x.book(t, 0), -1);
        due("ahead of BAD", x.book(2, 256), -1);
        due("how many", x.count(5), 0);
    }

    @Sentence(promise = 26, value = "BAD: marks;")
    static void bookBad() {
        PickedMatch x = things(1, 1);
        for (int marks : new int[] {-1, 256, MIN, MAX}) due("marks " + marks, x.book(0, marks), -2);
        due("how many", x.count(5), 0);
        due("0", x.book(0, 0), 1);
        due("255", x.book(1, 255), 2);
    }

    @Sentence(promise = 26, value = "FULL: 8.")
    static void bookFull() {
        PickedMatch x = things(1, 1);
        for (int i = 1; i <= 7; i++) x.book(0, 1);
        due("the eighth", x.book(0, 1), 8);
        due("a ninth", x.book(0, 2), -4);
        due("how many", x.count(5), 8);
        due("the eight are so", x.looked(), -5);
        due("a ninth of no THING", x.book(2, 0), -1);
        due("a bad ninth", x.book(0, 256), -2);
    }

    @Sentence(promise = 27, value = "LOOKED at; -5.")
    static void looked() {
        PickedMatch x = things(1, 1);
        due("no THINGS", new PickedMatch().looked(), -5);
        due("an empty BOOK", x.looked(), -5);
        x.book(0, 1);
        due("as it is", x.looked(), -5);
        x.book(0, 0);
        due("the last", x.looked(), 1);
        x.mark(0, 0);
        due("the first", x.looked(), 0);
    }

    /** One THING with MARKS 1, and TAPE 5 with 0, 1, 0 as shorts. */
    private static PickedMatch taped() {
        PickedMatch x = things(1);
        x.tape(5, 1, 3);
        x.item(5, 1, 1);
        return x;
    }

    @Sentence(promise = 28, value = "JUDGED from place i of a TAPE on.")
    static void judge() {
        int[] judged = {100, 0, -5, 0, 100, 100};
        for (int i = -1; i <= 4; i++) due("from " + i, taped().judge(5, i), judged[i + 1]);
        due("far behind", taped().judge(5, MAX), 100);
        due("far below", taped().judge(5, MIN), 100);
    }

    @Sentence(promise = 28, value = "NONE: tape;")
    static void judgeNone() {
        for (int tape : new int[] {-1, 6, MIN, MAX}) due("no TAPE " + tape, taped().judge(tape, 0), -1);
        due("no THINGS", new PickedMatch().judge(6, 0), -1);
        due("the first", taped().judge(0, 0), 100);
        due("the last", taped().judge(5, 1), -5);
    }

    @Sentence(promise = 28, value = "CAST: it is no row of shorts.")
    static void judgeCast() {
        for (int sort = 0; sort < 5; sort++) {
            PickedMatch x = things(1);
            x.tape(0, sort, 1);
            x.item(0, 0, 1);
            due("sort " + sort, x.judge(0, 0), sort == 1 ? -5 : -12);
            due("sort " + sort + ", no such place", x.judge(0, -1), sort == 1 ? 100 : -12);
            x.tape(0, sort, 0);
            due("sort " + sort + ", empty", x.judge(0, 0), sort == 1 ? 100 : -12);
            x = new PickedMatch();
            x.tape(0, sort, 1);
            due("sort " + sort + ", no THINGS", x.judge(0, 0), sort == 1 ? -5 : -12);
        }
    }

    @Sentence(promise = 29, value = "THE IMAGE is taken: how many THINGS there are.")
    static void image() {
        PickedMatch x = new PickedMatch();
        for (int many = 0; many <= 6; many++) {
            due("image", x.image(), many);
            x.thing(0, 0, 0);
        }
        due("the latest one alone", x.undo(), 6);
        x = things(1, 2);
        x.image();
        x.mark(0, 9);
        due("again", x.image(), 2);
        x.mark(0, 5);
        x.undo();
        due("the latest one", x.of(0, 2), 9);
    }

    @Sentence(promise = 30, value = "All is as THE IMAGE: how many THINGS.")
    static void undo() {
        PickedMatch x = new PickedMatch();
        x.image();
        due("none came", x.undo(), 0);
        for (int i = 0; i < 6; i++) x.thing(0, 0, 1);
        x.pass(60);
        street(x, "need 9");
        x.see(0, true, 0);
        x.week(0, 0);
        x.book(0, 0);
        due("empty again", x.undo(), 0);
        int[] told = {0, 1, 6, 0, 0, 0, -5, 0};
        for (int what = 0; what < 8; what++) due("told " + what, x.told(what), told[what]);
        int[] counts = {0, 1, 0, 0, 0, 0, 0, 0};
        for (int what = 0; what < 8; what++) due("count " + what, x.count(what), counts[what]);
        due("THE IMAGE stays", x.undo(), 0);
        due("the first THING again", x.thing(0, 0, 1), 0);
        due("the next STREET", street(x, "need 8"), 1);
        due("it holds", x.told(1), 8);
        // THE IMAGE has as many as there are room for
        x = had(1, 1, 1, 1, 1, 1);
        for (int i = 0; i < 5; i++) x.see(0, true, 0);
        for (int i = 0; i < 10; i++) x.week(1, 0);
        for (int i = 0; i < 8; i++) x.book(5, 1);
        due("image", x.image(), 6);
        for (int t = 5; t >= 0; t--) x.put();
        x.see(-1, true, 0);
        x.week(-1, 0);
        x.book(-1, 0);
        x.mark(5, 0);
        due("full again", x.undo(), 6);
        int[] full = {6, 1, 6, 5, 10, 8, 0, 0};
        for (int what = 0; what < 8; what++) due("count " + what, x.count(what), full[what]);
        due("all are HAD", x.told(3), 63);
        due("the last MARKS", x.looked(), -5);
        due("a full WEEK goes", x.ends(0), 0);
    }

    @Sentence(promise = 30, value = "STATE: there is none.")
    static void undoNone() {
        PickedMatch x = new PickedMatch();
        due("a new object", x.undo(), -3);
        x.thing(0, 0, 3);
        x.take(0);
        due("none was taken", x.undo(), -3);
        due("as it was", x.told(3), 1);
        due("as it was", x.of(0, 2), 3);
        x.image();
        due("there is one", x.undo(), 1);
    }

    @Sentence(promise = 31, value = "An ACT (0 lies, 1 fits, 2 tells) of a THING with x.")
    static void act() {
        PickedMatch x = new PickedMatch();
        x.thing(0, 9, 0);
        x.thing(2, 4, 0);
        int[] xs = {0, 1, -1, 1000, MAX, MIN};
        for (int n : xs) {
            due("lies of " + n, x.act(0, 0, n), n);
            due("fits of " + n, x.act(0, 1, n), n - 9);
            due("tells of " + n, x.act(0, 2, n), (n - 9) * 2);
            due("a KEY lies of " + n, x.act(1, 0, n), n * 3 + 1);
            due("a KEY fits of " + n, x.act(1, 1, n), n * 3 + 1 - 4);
            due("a KEY tells of " + n, x.act(1, 2, n), (n * 3 + 1 - 4) * 2);
        }
    }

    @Sentence(promise = 31, value = "0, and no TRACE then: no such THING, act.")
    static void actNone() {
        int[][] none = {{-1, 0}, {1, 0}, {6, 0}, {MIN, 0}, {MAX, 0}, {0, -1}, {0, 3}, {0, MIN}, {0, MAX}, {1, 3}};
        for (int[] no : none) {
            PickedMatch x = things(1);
            due("an ACT", x.act(0, 2, 5), 10);
            due("THING " + no[0] + ", act " + no[1], x.act(no[0], no[1], 5), 0);
            due("no TRACE then", x.trace(0), -1);
            due("none ran", x.count(7), 0);
        }
    }

    @Sentence(promise = 32, value = "THE TRACE's i-th body.")
    static void trace() {
        PickedMatch x = things(1);
        x.act(0, 2, 5);
        int[] bodies = {12, 11, 10};
        for (int i = 0; i < 3; i++) due("body " + i, x.trace(i), bodies[i]);
    }

    @Sentence(promise = 32, value = "NONE.")
    static void traceNone() {
        PickedMatch x = things(1);
        for (int i : new int[] {-1, 0, 1, 19, 20, MIN, MAX}) due("no act() yet, " + i, x.trace(i), -1);
        x.act(0, 2, 5);
        for (int i : new int[] {-1, 3, 19, 20, MIN, MAX}) due("no body " + i, x.trace(i), -1);
        due("the last one", x.trace(2), 10);
    }

    @Sentence(promise = 33, value = "A THING taken for one of KIND k (0 .. 6), or one under that: its KIND.")
    static void taken() {
        String[] under = {"0", "10", "20", "30", "410", "520", "630"};
        for (int kind = 0; kind < 7; kind++) {
            PickedMatch x = new PickedMatch();
            x.thing(kind, 0, 0);
            for (int k = 0; k < 7; k++) {
                if (under[kind].indexOf('0' + k) >= 0) due(kind + " for " + k, x.taken(0, k), kind);
            }
        }
    }

    @Sentence(promise = 33, value = "BAD: k;")
    static void takenBad() {
        PickedMatch x = things(1);
        for (int k : new int[] {-1, 7, MIN, MAX}) due("k " + k, x.taken(0, k), -2);
        due("ahead of NOTHING", x.taken(1, 7), -2);
    }

    @Sentence(promise = 33, value = "NOTHING: no such THING;")
    static void takenNothing() {
        PickedMatch x = things(1);
        for (int t : new int[] {-1, 1, 6, MIN, MAX}) {
            due("no THING " + t, x.taken(t, 0), -11);
            due("no THING " + t, x.taken(t, 6), -11);
        }
        due("none there at all", new PickedMatch().taken(0, 0), -11);
    }

    @Sentence(promise = 33, value = "CAST.")
    static void takenCast() {
        String[] others = {"123456", "23456", "13456", "12456", "2356", "1346", "1245"};
        for (int kind = 0; kind < 7; kind++) {
            PickedMatch x = new PickedMatch();
            x.thing(kind, 0, 0);
            for (char k : others[kind].toCharArray()) due(kind + " for " + k, x.taken(0, k - '0'), -12);
        }
    }

    @Sentence(promise = 34, value = "How many: 0 THINGS, 1 STREETS, 2 HAD, 3 SEEN, 4 of the WEEK, 5 of the BOOK, 6 bytes of"
        + " THE TEXT,")
    static void count() {
        PickedMatch x = new PickedMatch();
        for (int what = 0; what < 7; what++) due("none, what " + what, x.count(what), 0);
        for (int i = 0; i < 6; i++) {
            x.thing(0, 0, 1);
            x.take(i);
            street(x, "need 1");
        }
        for (int i = 0; i < 5; i++) x.see(0, true, 0);
        for (int i = 0; i < 10; i++) x.week(0, 0);
        for (int i = 0; i < 8; i++) x.book(0, 0);
        for (int i = 0; i < 100; i++) x.feed('x');
        int[] full = {6, 6, 6, 5, 10, 8, 100};
        for (int what = 0; what < 7; what++) due("full, what " + what, x.count(what), full[what]);
        x.put();
        x.see(-1, true, 0);
        x.week(-1, 0);
        x.book(-1, 0);
        int[] less = {6, 6, 5, 0, 0, 0, 100};
        for (int what = 0; what < 7; what++) due("less, what " + what, x.count(what), less[what]);
    }

    @Sentence(promise = 34, value = "7 bodies that ran in the latest act() (all, kept or not).")
    static void countBodies() {
        PickedMatch x = new PickedMatch();
        x.thing(6, 0, 0);
        due("none yet", x.count(7), 0);
        int[] ran = {2, 5, 12};
        for (int act = 0; act < 3; act++) {
            x.act(0, act, 1);
            due("act " + act, x.count(7), ran[act]);
        }
        x.act(0, 0, 1);
        due("the latest alone", x.count(7), 2);
        x.act(0, 3, 1);
        due("no such act", x.count(7), 0);
    }

    @Sentence(promise = 34, value = "BAD.")
    static void countBad() {
        for (int what : new int[] {-1, 8, MIN, MAX}) due("what " + what, things(1).count(what), -2);
    }

    @Sentence(promise = 35, value = "A TAPE becomes a row of n (0 .. 60) of a sort, all 0,")
    static void tape() {
        for (int sort = 0; sort < 5; sort++) {
            PickedMatch x = new PickedMatch();
            due("60", x.tape(0, sort, 60), 1);
            reads(x, 0, new long[60]);
            due("its neighbour", x.tape(1, sort, 1), 1);
            for (int i = 0; i < 60; i++) x.item(0, i, 1);
            reads(x, 1, 0);
            due("60 again", x.tape(0, sort, 60), 1);
            reads(x, 0, new long[60]);
            for (int i = 0; i < 60; i++) x.item(0, i, 1);
            due("1", x.tape(0, sort, 1), 1);
            reads(x, 0, 0);
            due("0", x.tape(0, sort, 0), 1);
            reads(x, 0);
            due("an empty row, not nothing", x.item(0, 0, 1), -13);
            due("60 behind fewer", x.tape(0, sort, 60), 1);
            reads(x, 0, new long[60]);
        }
        PickedMatch x = new PickedMatch();
        for (int t = 0; t < 6; t++) due("TAPE " + t, x.tape(t, 0, t), 1);
        for (int t = 0; t < 6; t++) reads(x, t, new long[t]);
    }

    @Sentence(promise = 35, value = "or holds nothing (sort -1: n does not matter): 1.")
    static void tapeOfNothing() {
        for (int n : new int[] {0, 60, 61, -1, MIN, MAX}) {
            PickedMatch x = new PickedMatch();
            due("it held nothing", x.tape(0, -1, n), 1);
            x.tape(0, 0, 2);
            x.item(0, 0, 5);
            due("it held a row", x.tape(0, -1, n), 1);
            reads(x, 0);
            due("nothing", x.item(0, 0, 1), -11);
            x.tape(0, 0, 2);
            reads(x, 0, 0, 0);
        }
    }

    private static PickedMatch oneByte() {
        PickedMatch x = new PickedMatch();
        x.tape(0, 0, 1);
        x.item(0, 0, 5);
        return x;
    }

    @Sentence(promise = 35, value = "NONE: tape;")
    static void tapeNone() {
        PickedMatch x = oneByte();
        for (int tape : new int[] {-1, 6, MIN, MAX}) {
            due("no TAPE " + tape, x.tape(tape, 0, 1), -1);
            due("no TAPE " + tape + " to hold nothing", x.tape(tape, -1, 1), -1);
        }
        due("ahead of BAD", x.tape(6, 5, 61), -1);
        due("ahead of SIZE", x.tape(6, 0, -1), -1);
        reads(x, 0, 5);
    }

    @Sentence(promise = 35, value = "BAD: sort, n above 60;")
    static void tapeBad() {
        PickedMatch x = oneByte();
        for (int sort : new int[] {-2, 5, MIN, MAX}) {
            due("sort " + sort, x.tape(0, sort, 1), -2);
            due("sort " + sort + " ahead of SIZE", x.tape(0, sort, -1), -2);
        }
        for (int n : new int[] {61, MAX}) due("n " + n, x.tape(0, 0, n), -2);
        reads(x, 0, 5);
        due("60", x.tape(0, 4, 60), 1);
    }

    @Sentence(promise = 35, value = "SIZE.")
    static void tapeSize() {
        PickedMatch x = oneByte();
        for (int n : new int[] {-1, -60, MIN}) due("n " + n, x.tape(0, 0, n), -14);
        reads(x, 0, 5);
        due("0", x.tape(0, 0, 0), 1);
    }

    @Sentence(promise = 36, value = "Item i of a TAPE becomes v")
    static void item() {
        PickedMatch x = new PickedMatch();
        for (int t = 0; t < 6; t++) x.tape(t, 2, 60);
        for (int t = 0; t < 6; t++) {
            due("the first", x.item(t, 0, 10 + t), 1);
            due("the last", x.item(t, 59, 20 + t), 1);
        }
        for (int t = 0; t < 6; t++) {
            long[] items = new long[60];
            items[0] = 10 + t;
            items[59] = 20 + t;
            reads(x, t, items);
        }
    }

    @Sentence(promise = 36, value = "(its lowest bits, as many as an item has; booleans: whether v is not 0): 1.")
    static void itemWraps() {
        PickedMatch x = new PickedMatch();
        long[] given = {0, 1, -1, 127, 128, 255, 256, -128, -129, 32767, 32768, 65535, 65536, -32769, MAX, MAX + 1L, 1L << 32,
            (1L << 32) - 1, MIN - 1L, Long.MAX_VALUE, Long.MIN_VALUE, 0x123456789abcdef0L};
        for (int sort = 0; sort < 5; sort++) {
            x.tape(sort, sort, 1);
            int bits = sort == 4 ? 64 : 64 - (8 << sort);
            for (long v : given) {
                due("item", x.item(sort, 0, v), 1);
                due("sort " + sort + " of " + v, x.read(sort, 0), sort == 4 ? v != 0 ? 1 : 0 : v << bits >> bits);
            }
        }
    }

    @Sentence(promise = 36, value = "NONE;")
    static void itemNone() {
        PickedMatch x = oneByte();
        for (int tape : new int[] {-1, 6, MIN, MAX}) due("no TAPE " + tape, x.item(tape, 0, 1), -1);
        due("ahead of PLACE", x.item(6, -1, 1), -1);
        reads(x, 0, 5);
    }

    @Sentence(promise = 36, value = "NOTHING;")
    static void itemNothing() {
        PickedMatch x = oneByte();
        for (int tape = 1; tape < 6; tape++) due("TAPE " + tape, x.item(tape, 0, 1), -11);
        due("ahead of PLACE", x.item(1, -1, 1), -11);
        due("nothing came", x.read(1, 0), NO);
        reads(x, 0, 5);
    }

    @Sentence(promise = 36, value = "PLACE.")
    static void itemPlace() {
        PickedMatch x = oneByte();
        for (int i : new int[] {-1, 1, 60, MIN, MAX}) due("place " + i, x.item(0, i, 1), -13);
        reads(x, 0, 5);
        x.tape(0, 0, 60);
        due("place 59", x.item(0, 59, 1), 1);
        due("place 60", x.item(0, 60, 1), -13);
        x.tape(0, 0, 0);
        due("of an empty row", x.item(0, 0, 1), -13);
    }

    @Sentence(promise = 37, value = "Item i of a TAPE.")
    static void read() {
        PickedMatch x = new PickedMatch();
        x.tape(0, 3, 60);
        x.tape(5, 3, 1);
        x.item(0, 0, 7);
        x.item(0, 59, Long.MAX_VALUE);
        x.item(5, 0, -1);
        due("the first", x.read(0, 0), 7);
        due("the last", x.read(0, 59), Long.MAX_VALUE);
        due("of the last TAPE", x.read(5, 0), -1);
    }

    @Sentence(promise = 37, value = "NO: no such TAPE,")
    static void readNoTape() {
        PickedMatch x = oneByte();
        for (int tape : new int[] {-1, 6, MIN, MAX}) due("no TAPE " + tape, x.read(tape, 0), NO);
    }

    @Sentence(promise = 37, value = "nothing there,")
    static void readNothing() {
        PickedMatch x = oneByte();
        for (int tape = 1; tape < 6; tape++) due("TAPE " + tape, x.read(tape, 0), NO);
        x.tape(0, -1, 0);
        due("nothing any more", x.read(0, 0), NO);
    }

    @Sentence(promise = 37, value = "no such place.")
    static void readNoPlace() {
        PickedMatch x = oneByte();
        for (int i : new int[] {-1, 1, 60, MIN, MAX}) due("place " + i, x.read(0, i), NO);
        x.tape(0, 0, 0);
        due("of an empty row", x.read(0, 0), NO);
        x.tape(0, 0, 60);
        due("place 60", x.read(0, 60), NO);
    }

    /** TAPE 0 with the ints 1 .. 5, TAPE 1 with three, TAPE 2 with five longs. */
    private static PickedMatch fiveInts() {
        PickedMatch x = new PickedMatch();
        x.tape(0, 2, 5);
        x.tape(1, 2, 3);
        x.tape(2, 3, 5);
        for (int i = 0; i < 5; i++) x.item(0, i, i + 1);
        return x;
    }

    @Sentence(promise = 38, value = "n items of a TAPE from i on come to another one (or the same) from j on, as they all were"
        + " before: n.")
    static void shift() {
        PickedMatch x = fiveInts();
        due("up", x.shift(0, 0, 0, 1, 4), 4);
        reads(x, 0, 1, 1, 2, 3, 4);
        x = fiveInts();
        due("down", x.shift(0, 1, 0, 0, 4), 4);
        reads(x, 0, 2, 3, 4, 5, 5);
        x = fiveInts();
        due("onto themselves", x.shift(0, 0, 0, 0, 5), 5);
        reads(x, 0, 1, 2, 3, 4, 5);
        due("the last ones", x.shift(0, 2, 1, 0, 3), 3);
        reads(x, 1, 3, 4, 5);
        reads(x, 0, 1, 2, 3, 4, 5);
        due("the last one to the end", x.shift(0, 0, 1, 2, 1), 1);
        reads(x, 1, 3, 4, 1);
        due("none", x.shift(0, 0, 1, 0, 0), 0);
        due("none at the ends", x.shift(0, 5, 1, 3, 0), 0);
        reads(x, 1, 3, 4, 1);
        for (int sort = 0; sort < 5; sort++) {
            x = new PickedMatch();
            x.tape(0, sort, 60);
            x.tape(5, sort, 60);
            x.item(0, 0, 1);
            x.item(0, 59, 1);
            due("60 of sort " + sort, x.shift(0, 0, 5, 0, 60), 60);
            long[] items = new long[60];
            items[0] = 1;
            items[59] = 1;
            reads(x, 5, items);
        }
        x = new PickedMatch();
        x.tape(0, 0, 0);
        x.tape(1, 0, 0);
        due("none of empty rows", x.shift(0, 0, 1, 0, 0), 0);
    }

    @Sentence(promise = 38, value = "NONE: tapes;")
    static void shiftNone() {
        PickedMatch x = fiveInts();
        for (int tape : new int[] {-1, 6, MIN, MAX}) {
            due("no TAPE " + tape, x.shift(tape, 0, 0, 0, 1), -1);
            due("no other TAPE " + tape, x.shift(0, 0, tape, 0, 1), -1);
            due("ahead of NOTHING", x.shift(3, 0, tape, 0, 1), -1);
            due("ahead of NOTHING", x.shift(tape, 0, 3, 0, 1), -1);
        }
        reads(x, 0, 1, 2, 3, 4, 5);
    }

    @Sentence(promise = 38, value = "NOTHING;")
    static void shiftNothing() {
        PickedMatch x = fiveInts();
        due("to nothing", x.shift(0, 0, 3, 0, 1), -11);
        due("from nothing", x.shift(3, 0, 0, 0, 1), -11);
        due("from nothing to itself", x.shift(3, 0, 3, 0, 0), -11);
        due("ahead of PLACE", x.shift(0, -1, 3, 0, 1), -11);
        reads(x, 0, 1, 2, 3, 4, 5);
        reads(x, 3);
    }

    @Sentence(promise = 38, value = "CAST: of unlike sorts;")
    static void shiftCast() {
        for (int sort = 0; sort < 5; sort++) {
            for (int other = 0; other < 5; other++) {
                PickedMatch x = new PickedMatch();
                x.tape(0, sort, 1);
                x.tape(1, other, 1);
                x.item(0, 0, 1);
                due(sort + " to " + other, x.shift(0, 0, 1, 0, 1), sort == other ? 1 : -12);
                reads(x, 1, sort == other ? 1 : 0);
                due(sort + " to " + other + ", no such place", x.shift(0, -1, 1, 0, 1), sort == other ? -13 : -12);
                due(sort + " to " + other + ", none", x.shift(0, 0, 1, 0, 0), sort == other ? 0 : -12);
            }
        }
    }

    @Sentence(promise = 38, value = "PLACE: n, i or j is below 0, or beyond either's end.")
    static void shiftPlace() {
        // i, j, n: from the five of TAPE 0 to the three of TAPE 1
        int[][] places = {{-1, 0, 1}, {0, -1, 1}, {0, 0, -1}, {-1, 0, 0}, {0, -1, 0}, {5, 0, 1}, {4, 0, 2}, {3, 0, 3},
            {0, 3, 1}, {0, 2, 2}, {0, 1, 3}, {0, 0, 4}, {6, 0, 0}, {0, 4, 0}, {MAX, 0, 0}, {0, MAX, 0}, {MAX, 0, 1},
            {0, MAX, 1}, {1, 0, MAX}, {0, 1, MAX}, {0, 0, MAX}, {MAX, MAX, MAX}, {MIN, 0, 1}, {0, MIN, 1}, {0, 0, MIN},
            {MIN, MIN, MIN}, {1, 1, MIN}};
        for (int[] p : places) {
            PickedMatch x = fiveInts();
            due("i " + p[0] + ", j " + p[1] + ", n " + p[2], x.shift(0, p[0], 1, p[1], p[2]), -13);
            reads(x, 0, 1, 2, 3, 4, 5);
            reads(x, 1, 0, 0, 0);
        }
        due("three of five from 2 on", fiveInts().shift(0, 2, 1, 0, 3), 3);
        due("the first three", fiveInts().shift(0, 0, 1, 0, 3), 3);
        due("within itself, beyond its end", fiveInts().shift(0, 0, 0, 1, 5), -13);
        // behind the end of a row there are the next TAPE's places, but not its own
        due("from three to five", fiveInts().shift(1, 0, 0, 0, 4), -13);
    }
}
