/** The Terms: MARKS, THINGS, THE TEXT and how a STREET is read from it. */
final class StreetBoundaries extends Boundary {
    private static final String[] WORDS = {"like", "mind", "need", "hold"};

    @Sentence("MARKS are told as bits (0 .. 255).")
    static void marks() {
        PickedMatch x = new PickedMatch();
        due("thing with 0", x.thing(0, 0, 0), 0);
        due("thing with 255", x.thing(0, 0, 255), 1);
        due("thing with -1", x.thing(0, 0, -1), -2);
        due("thing with 256", x.thing(0, 0, 256), -2);
        due("mark 0", x.mark(1, 0), 255);
        due("mark 255", x.mark(0, 255), 0);
        due("mark -1", x.mark(0, -1), -2);
        due("mark 256", x.mark(0, 256), -2);
        due("book 0", x.book(0, 0), 1);
        due("book 255", x.book(0, 255), 2);
        due("book -1", x.book(0, -1), -2);
        due("book 256", x.book(0, 256), -2);
        x = things(0, 255);
        for (int b = 0; b < 8; b++) {
            x.mark(0, 1 << b);
            due("of 2 with bit " + b, x.of(0, 2), 1 << b);
            due("mean with bit " + b, x.mean(0), 9);
        }
    }

    @Sentence("THINGS 0 .. 5, as they come,")
    static void thingsAreSix() {
        PickedMatch x = new PickedMatch();
        for (int t = 0; t < 6; t++) {
            due("not there yet", x.of(t, 1), -1001);
            due("thing", x.thing(0, t, 0), t);
            due("of", x.of(t, 1), t);
        }
        due("a seventh", x.thing(0, 0, 0), -4);
        due("no 6", x.of(6, 1), -1001);
        due("no -1", x.of(-1, 1), -1001);
        due("how many", x.count(0), 6);
    }

    @Sentence("are of KINDS: 0 THING; 1 GLOVE, 2 KEY, 3 LETTER under THING; 4 BAIT under GLOVE; 5 TICKET under KEY;"
        + " 6 TOLD under LETTER;")
    static void kinds() {
        String[] under = {"0", "10", "20", "30", "410", "520", "630"};
        due("kind -1", new PickedMatch().thing(-1, 0, 0), -1);
        due("kind 7", new PickedMatch().thing(7, 0, 0), -1);
        for (int kind = 0; kind < 7; kind++) {
            PickedMatch x = new PickedMatch();
            due("kind " + kind, x.thing(kind, 0, 0), 0);
            due("kind " + kind, x.of(0, 0), kind);
            for (int k = 0; k < 7; k++) {
                due(kind + " taken for " + k, x.taken(0, k), under[kind].indexOf('0' + k) >= 0 ? kind : -12);
            }
        }
    }

    @Sentence("with a number v (0 .. 9), MARKS.")
    static void numbers() {
        PickedMatch x = new PickedMatch();
        due("v -1", x.thing(0, -1, 0), -2);
        due("v 10", x.thing(0, 10, 0), -2);
        due("v 0", x.thing(0, 0, 3), 0);
        due("v 9", x.thing(0, 9, 5), 1);
        due("least", x.of(0, 1), 0);
        due("greatest", x.of(1, 1), 9);
        due("marks", x.of(0, 2), 3);
        due("marks", x.of(1, 2), 5);
    }

    @Sentence("HAD: THINGS that were taken, in order, none twice (none at first);")
    static void had() {
        PickedMatch x = things(1, 1, 1, 1, 1, 1);
        due("none at first", x.told(3), 0);
        due("none at first", x.count(2), 0);
        int[] order = {3, 0, 5, 1, 4, 2};
        for (int i = 0; i < 6; i++) {
            due("take", x.take(order[i]), i + 1);
            due("the how manieth", x.of(order[i], 3), i);
            due("not twice by hand", x.take(order[i]), -3);
        }
        x.put();
        due("not twice by a DAY", x.pass(60), 6);
        due("all", x.told(3), 63);
        for (int i = 0; i < 6; i++) due("in order", x.of(order[i], 3), i);
    }

    @Sentence("THE NEWEST of them.")
    static void newest() {
        PickedMatch x = things(1, 3, 2);
        x.take(1);
        x.take(2);
        x.take(0);
        due("the last that was taken", x.put(), 0);
        due("then the one ahead of it", x.put(), 2);
        due("the only one", x.put(), 1);
        due("none is left", x.put(), -3);
    }

    @Sentence("DAY: 0 at first.")
    static void firstDay() {
        due("told 0", new PickedMatch().told(0), 0);
        PickedMatch x = things(1, 2);
        due("told 0", x.told(0), 0);
        x.pass(1);
        due("THING 0 came by", x.told(3), 1);
    }

    @Sentence("A STREET is read from THE TEXT (bytes, 100 at most):")
    static void hundredBytes() {
        // the last of the TESTS alone holds for THING 0
        String text = "like 99 t=10" + times("|t=1", 21) + "|t=0";
        PickedMatch x = things(0);
        due("a STREET of 100 bytes", street(x, text), 0);
        due("its last byte", x.of(0, 4), 99);
        x = things(0);
        feed(x, text);
        due("the 101st", x.feed('0'), -4);
        due("how many", x.count(6), 100);
        due("the first 100", x.street(), 0);
        due("the first 100", x.of(0, 4), 99);
        fault(text.substring(0, 99) + "x", 99);
        fault(text.substring(0, 98) + "xx", 98);
        fault("like 99 t=1" + times("|t=1", 22) + "|", 100);
        fault("like 99 (t=1" + times("|t=1", 22), 100);
        due("none", new PickedMatch().street(), -10);
    }

    @Sentence("CLAUSES, 1 to 10, with ; between:")
    static void clauses() {
        fault("", 0);
        fault(";", 0);
        fault(";need 1", 0);
        fault("need 1;", 7);
        fault("need 1;;need 1", 7);
        fault("need 1,need 1", 6);
        for (int n = 1; n <= 10; n++) {
            PickedMatch x = new PickedMatch();
            due(n + " CLAUSES", street(x, times("need 1;", n - 1) + "need 7"), 0);
            due("the last one", x.told(1), 7);
        }
        fault(times("need 1;", 10), 69);
        fault(times("need 1;", 10) + "need 1", 69);
        // wishes are counted as the others are
        whole("like 1 t=1;mind 1 t=1;" + times("hold 1;", 7) + "need 1");
        fault("like 1 t=1;mind 1 t=1;" + times("hold 1;", 8) + "need 1", 77);
    }

    @Sentence("like n E; mind n E; need n; hold n")
    static void words() {
        for (String word : WORDS) {
            boolean isWish = word.equals("like") || word.equals("mind");
            for (int n = 0; n < 4; n++) {
                fault(word.substring(0, n), n);
                fault(word.substring(0, n) + Character.toUpperCase(word.charAt(n)) + word.substring(n + 1) + " 1", n);
                fault(word.substring(0, n) + "x" + word.substring(n) + " 1", n);
            }
            fault(word + "s 1", 4);
            if (isWish) {
                whole(word + " 1 t=1");
                fault(word + " 1", 6);
                fault(word + " 1;need 1", 6);
                fault(word + " t=1", 5);
            } else {
                whole(word + " 1");
                fault(word + " 1 t=1", 6);
            }
        }
        fault("lind 1 t=1", 2);
        fault("nold 1", 1);
        fault("hike 1 t=1", 1);
        fault("mike 1 t=1", 2);
    }

    @Sentence("(one blank ahead of each part behind the word;")
    static void blanks() {
        for (String word : WORDS) {
            String rest = word.equals("like") || word.equals("mind") ? " t=1" : "";
            fault(" " + word + " 1" + rest, 0);
            fault(word + "1" + rest, 4);
            fault(word + "\t1" + rest, 4);
            fault(word + "  1" + rest, 5);
            fault(word + " 1" + rest + " ", 6 + rest.length());
            fault(word + " 1" + rest + " ;need 1", 6 + rest.length());
            fault("need 1; " + word + " 1" + rest, 7);
        }
        for (String word : new String[] {"like", "mind"}) {
            fault(word + " 1t=1", 6);
            fault(word + " 1  t=1", 7);
            fault(word + " 1 t =1", 8);
            fault(word + " 1 t= 1", 9);
            fault(word + " 1 t=1 |t=1", 10);
            fault(word + " 1 t=1| t=1", 11);
            fault(word + " 1 t=1 &t=1", 10);
            fault(word + " 1 ! t=1", 8);
            fault(word + " 1 ( t=1)", 8);
            fault(word + " 1 (t=1 )", 11);
        }
    }

    @Sentence("n 1 or 2 digits).")
    static void digitsOfN() {
        for (String word : WORDS) {
            String rest = word.equals("like") || word.equals("mind") ? " t=1" : "";
            fault(word + " ", 5);
            fault(word + " " + rest, 5);
            fault(word + " -1" + rest, 5);
            fault(word + " +1" + rest, 5);
            fault(word + " 123" + rest, 7);
            fault(word + " 000" + rest, 7);
            fault(word + " 1x" + rest, 6);
            // the signs on both sides of the digits
            for (char no : new char[] {'/', ':'}) {
                fault(word + " " + no + rest, 5);
                fault(word + " 9" + no + rest, 6);
            }
            for (String n : new String[] {"0", "9", "00", "09", "10", "90", "99"}) whole(word + " " + n + rest);
        }
        for (String n : new String[] {"0", "1", "9", "00", "01", "09", "10", "19", "90", "99"}) {
            int number = Integer.parseInt(n);
            PickedMatch x = things(0);
            street(x, "need " + n);
            due("need " + n, x.told(1), number);
            street(x, "like " + n + " t=0");
            due("like " + n, x.of(0, 4), number);
            street(x, "mind " + n + " t=0");
            due("mind " + n, x.of(0, 4), -number);
            street(x, "hold " + n);
            due("hold " + n, x.told(2), Math.max(1, number));
        }
    }

    /** Whether E holds for THING 0. */
    private static void holds(String e, boolean isSo) {
        PickedMatch x = things(0);
        due(e, street(x, "like 5 " + e), 0);
        due(e, x.of(0, 4), isSo ? 5 : 0);
    }

    private static String testThatIs(boolean isSo) {
        return isSo ? "t=0" : "t=1";
    }

    @Sentence("E: T or T|E. T: F or F&T. F: !F, (E), or a TEST:")
    static void wishes() {
        for (int bits = 0; bits < 8; bits++) {
            boolean a = (bits & 1) != 0, b = (bits & 2) != 0, c = (bits & 4) != 0;
            String p = testThatIs(a), q = testThatIs(b), r = testThatIs(c);
            holds(p, a);
            holds("!" + p, !a);
            holds("!!" + p, a);
            holds(p + "|" + q, a || b);
            holds(p + "&" + q, a && b);
            holds(p + "|" + q + "|" + r, a || b || c);
            holds(p + "&" + q + "&" + r, a && b && c);
            holds(p + "|" + q + "&" + r, a || b && c);
            holds(p + "&" + q + "|" + r, a && b || c);
            holds("(" + p + "|" + q + ")&" + r, (a || b) && c);
            holds(p + "&(" + q + "|" + r + ")", a && (b || c));
            holds("!" + p + "&" + q, !a && b);
            holds("!" + p + "|" + q, !a || b);
            holds("!(" + p + "&" + q + ")", !(a && b));
            holds("!(" + p + "|" + q + ")&" + r, !(a || b) && c);
        }
        for (String joint : new String[] {"|", "&"}) {
            fault("like 1 " + joint + "t=1", 7);
            fault("like 1 t=1" + joint, 11);
            fault("like 1 t=1" + joint + joint + "t=1", 11);
            fault("like 1 !" + joint, 8);
            fault("like 1 (" + joint + "t=1)", 8);
            fault("like 1 (t=1" + joint + ")", 12);
            fault("like 1 t=1" + joint + ";need 1", 11);
        }
        fault("like 1 !", 8);
        fault("like 1 !)", 8);
        fault("like 1 ()", 8);
        fault("like 1 (", 8);
        fault("like 1 (t=1", 11);
        fault("like 1 (t=1;need 1", 11);
        fault("like 1 t=1)", 10);
        fault("like 1 (t=1))", 12);
        fault("like 1 t=1t=1", 10);
        fault("like 1 t=1!t=1", 10);
        fault("like 1 t=1(t=1)", 10);
        fault("like 1 (t=1)(t=1)", 12);
        fault("like 1 (t=1)t=1", 12);
    }

    @Sentence("a letter, < or = or >, a number (1 or 2 digits):")
    static void testSigns() {
        for (int c = 0; c < 128; c++) {
            String sign = String.valueOf((char) c);
            fault("like 1 " + sign, "tkvmwd!(".contains(sign) ? 8 : 7);
            fault("like 1 t" + sign, "<=>".contains(sign) ? 9 : 8);
            boolean isDigit = "0123456789".contains(sign), isJoint = "&|;".contains(sign);
            if (isDigit) {
                whole("like 1 t=" + sign);
                whole("like 1 t=1" + sign);
            } else {
                fault("like 1 t=" + sign, 9);
                fault("like 1 t=1" + sign, isJoint ? 11 : 10);
            }
            fault("like 1 t=12" + sign, isJoint ? 12 : 11);
        }
        PickedMatch x = new PickedMatch();
        x.thing(0, 9, 0);
        String[] so = {"v<10", "v<99", "v=9", "v=09", "v>8", "v>08", "v>0", "v>00", "v=9|t<0", "v=9&!t<0", "v=9&d<99"};
        String[] notSo = {"v<9", "v<09", "v<0", "v=8", "v=10", "v=90", "v=99", "v>9", "v>09", "v>10", "v>99", "t<0",
            "v=9&t<0", "v=9&d>99"};
        for (String test : so) due(test, taste(test), 1);
        for (String test : notSo) due(test, taste(test), 0);
    }

    private static int taste(String test) {
        PickedMatch x = new PickedMatch();
        x.thing(0, 9, 0);
        street(x, "like 1 " + test);
        return x.of(0, 4);
    }

    @Sentence("of a THING t its number, k its KIND, v its v, m how many MARKS it has, w how many THINGS are HAD,"
        + " d DAY modulo 10.")
    static void letters() {
        for (int n = 0; n < 6; n++) {
            PickedMatch x = new PickedMatch();
            for (int t = 0; t < 6; t++) x.thing(6 - t, 4 + t, (1 << t) - 1);
            street(x, "like 1 t=" + n);
            for (int t = 0; t < 6; t++) due("t=" + n, x.of(t, 4), t == n ? 1 : 0);
            street(x, "like 1 k=" + n);
            for (int t = 0; t < 6; t++) due("k=" + n, x.of(t, 4), 6 - t == n ? 1 : 0);
            street(x, "like 1 v=" + (4 + n));
            for (int t = 0; t < 6; t++) due("v=" + (4 + n), x.of(t, 4), t == n ? 1 : 0);
            street(x, "like 1 m=" + n);
            for (int t = 0; t < 6; t++) due("m=" + n, x.of(t, 4), t == n ? 1 : 0);
        }
        PickedMatch x = things(255, 254, 0);
        street(x, "like 1 m=8;like 2 m=7;like 4 m=0");
        due("8 MARKS", x.of(0, 4), 1);
        due("7 MARKS", x.of(1, 4), 2);
        due("no MARKS", x.of(2, 4), 4);
        x = had(1, 1, 1, 1, 1, 1);
        street(x, "like 6 w=6;like 5 w=5;like 1 w=1;like 10 w=0");
        int[] tastes = {6, 5, 0, 0, 0, 1, 10};
        for (int gone = 0; gone < 7; gone++) {
            due(6 - gone + " are HAD", x.of(0, 4), tastes[gone]);
            x.put();
        }
    }

    // a test of its own for the wrap-around of d
    @Sentence("d DAY modulo 10.")
    static void lastDigitOfDay() {
        PickedMatch x = things(0);
        street(x, "like 9 d=9;like 1 d=1;like 10 d=0;like 50 d>9");
        for (int day = 0; day < 32; day++) {
            int digit = day % 10;
            due("DAY " + day, x.of(0, 4), digit == 0 ? 10 : digit == 1 || digit == 9 ? digit : 0);
            x.pass(1);
        }
        x = onDay(9999);
        x.thing(0, 0, 0);
        street(x, "like 9 d=9;like 10 d=0");
        due("DAY 9999", x.of(0, 4), 9);
    }

    @Sentence("A ( or ! within 4 others is none.")
    static void fourDeep() {
        for (int mix = 0; mix < 16; mix++) {
            StringBuilder open = new StringBuilder(), close = new StringBuilder();
            for (int i = 0; i < 4; i++) {
                open.append((mix >> i & 1) == 0 ? '(' : '!');
                if ((mix >> i & 1) == 0) close.append(')');
            }
            whole("like 1 " + open + "t=1" + close);
            whole("mind 1 t=1&" + open + "t=1" + close + "|t=1");
            fault("like 1 " + open + "(t=1)" + close, 11);
            fault("like 1 " + open + "!t=1" + close, 11);
        }
        // what is closed again is not around the next ones
        whole("like 1 ((((t=1))))|((((t=1))))&((((t=1))))");
        whole("like 1 !!!!t=1&!!!!t=1|!!!!t=1");
        whole("like 1 (!(!t=1|!t=1)&(!t=1))&!!(!t=1)");
        whole("like 1 !t=1&!t=1&!t=1&!t=1&!t=1&!t=1");
        whole("like 1 (t=1)|(t=1)|(t=1)|(t=1)|(t=1)|(t=1)");
        whole("like 1 ((((t=1))));mind 1 ((((t=1))))");
        // but what is open is
        fault("like 1 ((((t=1|(t=1)))))", 15);
        fault("like 1 ((((t=1&!t=1))))", 15);
        fault("like 1 !(!(t=1|!t=1&t=1))", 15);
    }

    @Sentence("The FAULT: the place of the first byte with which none begins so (the end of THE TEXT, if it ends too early).")
    static void faults() {
        String text = "like 1 t=1;mind 22 !(k<3&v>4);need 5;hold 66";
        // a STREET may end behind these
        String ends = " 10 29 36 43 44 ";
        for (int n = 0; n <= text.length(); n++) {
            if (ends.contains(" " + n + " ")) whole(text.substring(0, n));
            else fault(text.substring(0, n), n);
        }
        for (int n = 0; n < text.length(); n++) {
            fault(text.substring(0, n) + (char) 127 + text.substring(n + 1), n);
            fault(text.substring(0, n) + (char) 0 + text.substring(n + 1), n);
        }
        // the first of two
        fault("need x;hold x", 5);
        fault("need 1;hold x;", 12);
    }

    @Sentence("The newest STREET holds (6 at most); without one there are no CLAUSES.")
    static void newestHolds() {
        PickedMatch x = things(0);
        due("no NEED", x.told(1), 1);
        due("no HOLD", x.told(2), 6);
        due("no TASTE", x.of(0, 4), 0);
        for (int n = 0; n < 6; n++) {
            due("street", street(x, "need " + (20 + n) + ";hold " + (30 + n) + ";like " + (40 + n) + " t=0"), n);
            due("the newest", x.told(1), 20 + n);
            due("the newest", x.told(2), 30 + n);
            due("the newest", x.of(0, 4), 40 + n);
        }
        due("a seventh", street(x, "need 7"), -4);
        due("the newest", x.told(1), 25);
        due("how many", x.count(1), 6);
    }

    @Sentence("TASTE of a THING: the n of all like whose E holds, less those of all mind, together (may be below 0).")
    static void tastes() {
        PickedMatch x = things(0, 0);
        street(x, times("like 99 t=0;", 7) + "like 99 t=0");
        due("most", x.of(0, 4), 792);
        due("none of them", x.of(1, 4), 0);
        street(x, times("mind 99 t=0;", 7) + "mind 99 t=0");
        due("least", x.of(0, 4), -792);
        due("none of them", x.of(1, 4), 0);
        street(x, "like 5 t=0;mind 5 t=0;like 3 t=1;mind 4 t=1");
        due("as much", x.of(0, 4), 0);
        due("1 below 0", x.of(1, 4), -1);
        street(x, "like 0 t=0;mind 0 t=0;need 9;hold 9");
        due("n 0", x.of(0, 4), 0);
    }

    @Sentence("NEED (1 without), HOLD (6 without; 1 if less): the last one's n.")
    static void needAndHold() {
        PickedMatch x = new PickedMatch();
        due("NEED without a STREET", x.told(1), 1);
        due("HOLD without a STREET", x.told(2), 6);
        street(x, "need 0;hold 0");
        due("NEED 0", x.told(1), 0);
        due("HOLD 1, if less", x.told(2), 1);
        street(x, "hold 1");
        due("NEED without", x.told(1), 1);
        due("HOLD 1", x.told(2), 1);
        street(x, "need 99;hold 2;need 98;hold 99;need 99");
        due("the last NEED", x.told(1), 99);
        due("the last HOLD", x.told(2), 99);
        street(x, "need 9;hold 9;need 0;hold 2");
        due("the last NEED", x.told(1), 0);
        due("the last HOLD", x.told(2), 2);
        street(x, "need 2");
        due("HOLD without", x.told(2), 6);
        street(x, "hold 7;hold 00");
        due("the last HOLD, 1 if less", x.told(2), 1);
    }
}
