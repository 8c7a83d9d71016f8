/**
 * A thief who takes only what goes with what was taken already: things with
 * marks, streets that tell what is liked or minded, and days that go by.
 */
public final class PickedMatch {
    public static final int NONE = -1, BAD = -2, STATE = -3, FULL = -4;
    /** There is no such number. */
    public static final long NO = Long.MIN_VALUE;

    private static final int ABSENT = -5;
    private static final int NOT_OF = -1001;
    private static final int FAULT_BASE = -10;
    private static final int NOTHING = -11, CAST = -12, PLACE = -13, SIZE = -14;

    private static final int THING = 0, GLOVE = 1, KEY = 2, LETTER = 3, BAIT = 4, TICKET = 5, TOLD = 6;
    private static final int[] KIND_ABOVE = {-1, THING, THING, THING, GLOVE, KEY, LETTER};

    private static final int THINGS_LIMIT = 6;
    private static final int STREETS_LIMIT = 6;
    private static final int MARKS_LIMIT = 255;
    private static final int NUMBER_LIMIT = 9;
    private static final int DAYS_LIMIT = 60;
    private static final int LAST_DAY = 9999;
    private static final int NEED_WITHOUT = 1;
    private static final int HOLD_WITHOUT = 6;

    private final Scene scene = new Scene();
    /** What is only asked is tried out here, so that the scene itself never changes by it. */
    private final Scene trial = new Scene();
    private final Notes notes = new Notes();
    private final Scene keptScene = new Scene();
    private final Notes keptNotes = new Notes();
    private boolean isKept;
    private final StreetReader reader = new StreetReader();
    private int streetCount;
    private final Search search = new Search();
    private final Acts acts = new Acts();
    private final Tapes tapes = new Tapes();

    /** No THINGS, no STREET. */
    public PickedMatch() {
    }

    // ---- things, streets

    public int thing(int kind, int v, int marks) {
        if (!isWithin(kind, THING, TOLD)) {
            return NONE;
        }
        if (!isWithin(v, 0, NUMBER_LIMIT) || !isWithin(marks, 0, MARKS_LIMIT)) {
            return BAD;
        }
        if (scene.things >= THINGS_LIMIT) {
            return FULL;
        }
        return scene.addThing(kind, v, marks);
    }

    public int of(int thing, int what) {
        if (!scene.hasThing(thing)) {
            return NOT_OF;
        }
        switch (what) {
            case 0:
                return scene.kinds[thing];
            case 1:
                return scene.numbers[thing];
            case 2:
                return scene.marks[thing];
            case 3:
                return scene.placeInHad(thing);
            case 4:
                return scene.tasteOf(thing);
            case 5:
                return scene.alikeOf(thing);
            case 6:
                return scene.goesNow(thing) ? 1 : 0;
            default:
                return NOT_OF;
        }
    }

    public int mark(int thing, int n) {
        if (!scene.hasThing(thing)) {
            return NONE;
        }
        if (!isWithin(n, 0, MARKS_LIMIT)) {
            return BAD;
        }
        int before = scene.marks[thing];
        scene.marks[thing] = n;
        return before;
    }

    public int row(int thing, int part, int n) {
        if (!scene.hasThing(thing) || !isWithin(part, 0, Scene.ROW_PARTS - 1)) {
            return NONE;
        }
        if (!isWithin(n, 0, NUMBER_LIMIT)) {
            return BAD;
        }
        if (scene.kinds[thing] != TOLD) {
            return STATE;
        }
        int at = thing * Scene.ROW_PARTS + part;
        int before = scene.rows[at];
        scene.rows[at] = n;
        return before;
    }

    public int take(int thing) {
        if (!scene.hasThing(thing)) {
            return NONE;
        }
        if (!scene.goesNow(thing)) {
            return STATE;
        }
        scene.pickUp(thing);
        return scene.hadCount;
    }

    public int put() {
        if (scene.hadCount == 0) {
            return STATE;
        }
        return scene.layDownNewest();
    }

    public int feed(int sign) {
        if (!isWithin(sign, 0, StreetReader.SIGN_LIMIT)) {
            return BAD;
        }
        if (reader.length >= StreetReader.TEXT_LIMIT) {
            return FULL;
        }
        return reader.addSign(sign);
    }

    public int street() {
        if (streetCount >= STREETS_LIMIT) {
            return FULL;
        }
        boolean isRead = reader.readStreet();
        reader.length = 0;
        if (!isRead) {
            return FAULT_BASE - reader.place;
        }
        // an older STREET can hold again by undo() alone, and the kept scene has that one
        scene.held = new Street(reader.code, reader.size, reader.need, reader.hold);
        streetCount++;
        return streetCount - 1;
    }

    public int told(int what) {
        switch (what) {
            case 0:
                return scene.day;
            case 1:
                return scene.needNow();
            case 2:
                return scene.holdNow();
            case 3:
                return scene.hadBits;
            case 4:
                return scene.goingBits();
            case 5:
                return scene.marksOf(scene.hadBits);
            case 6:
                return twinsNow();
            case 7:
                return coverNow();
            default:
                return NONE;
        }
    }

    // ---- days

    public int pass(int n) {
        if (!isWithin(n, 0, DAYS_LIMIT)) {
            return BAD;
        }
        if (scene.day + n > LAST_DAY) {
            return STATE;
        }
        scene.daysGo(n);
        return scene.hadCount;
    }

    public int on(int n, int what) {
        if (!isWithin(what, 0, 1)) {
            return NONE;
        }
        if (!isWithin(n, 0, DAYS_LIMIT)) {
            return BAD;
        }
        trial.becomeAs(scene);
        trial.daysGo(n);
        return what == 0 ? trial.hadBits : trial.hadCount;
    }

    public int soon(int q) {
        if (!isWithin(q, 0, THINGS_LIMIT)) {
            return BAD;
        }
        trial.becomeAs(scene);
        for (int days = 0; days <= DAYS_LIMIT; days++) {
            if (trial.hadCount >= q) {
                return days;
            }
            trial.dayGoes();
        }
        return ABSENT;
    }

    public int when(int thing) {
        if (!scene.hasThing(thing)) {
            return NONE;
        }
        trial.becomeAs(scene);
        for (int days = 0; days <= DAYS_LIMIT; days++) {
            if (trial.isHad(thing)) {
                return days;
            }
            trial.dayGoes();
        }
        return ABSENT;
    }

    // ---- what can be had

    public int most(int k) {
        if (!isWithin(k, -1, THINGS_LIMIT - 1)) {
            return NONE;
        }
        trial.becomeAs(scene);
        int many = search.longestRow(trial);
        if (k < 0) {
            return many;
        }
        return k < many ? search.best[k] : ABSENT;
    }

    public int best(int what) {
        if (what == 0) {
            return bestStart();
        }
        if (what == 1) {
            return bestBack();
        }
        return NONE;
    }

    public int reach(int thing) {
        if (!scene.hasThing(thing)) {
            return NONE;
        }
        if (scene.isHad(thing)) {
            return ABSENT;
        }
        trial.becomeAs(scene);
        return search.fewestAhead(trial, thing);
    }

    public int fitting(int thing, int what) {
        if (!scene.hasThing(thing) || !isWithin(what, 0, 1)) {
            return NONE;
        }
        int many = 0;
        int least = ABSENT;
        trial.becomeAs(scene);
        for (int marks = 0; marks <= MARKS_LIMIT; marks++) {
            trial.marks[thing] = marks;
            if (trial.goesNow(thing)) {
                least = many == 0 ? marks : least;
                many++;
            }
        }
        return what == 0 ? many : least;
    }

    // ---- seen, odds

    public int see(int thing, boolean isHad, int n) {
        if (thing == -1) {
            notes.seenCount = 0;
            return 0;
        }
        if (!scene.hasThing(thing)) {
            return NONE;
        }
        if (!isWithin(n, 0, Notes.SEEN_DAYS)) {
            return BAD;
        }
        if (notes.seenCount >= Notes.SEEN_LIMIT) {
            return FULL;
        }
        return notes.addSeen(thing, isHad, n);
    }

    public int marked(int thing, int what) {
        if (!scene.hasThing(thing) || !isWithin(what, 0, 1)) {
            return NONE;
        }
        int many = 0;
        int least = ABSENT;
        for (int marks = 0; marks <= MARKS_LIMIT; marks++) {
            trial.becomeAs(scene);
            trial.marks[thing] = marks;
            if (notes.isAllSeen(trial)) {
                least = many == 0 ? marks : least;
                many++;
            }
        }
        return what == 0 ? many : least;
    }

    public int can(int thing, int what) {
        if (!scene.hasThing(thing) || !isWithin(what, 0, 1)) {
            return NONE;
        }
        int many = 0;
        int least = ABSENT;
        for (int number = 0; number <= NUMBER_LIMIT; number++) {
            trial.becomeAs(scene);
            trial.numbers[thing] = number;
            if (notes.isAllSeen(trial)) {
                least = many == 0 ? number : least;
                many++;
            }
        }
        return what == 0 ? many : least;
    }

    public long odds(int n, int q, int part) {
        if (!isWithin(n, 0, DAYS_LIMIT) || !isWithin(q, 0, THINGS_LIMIT)) {
            return NO;
        }
        int ways = 0;
        for (int lost = 0; lost < scene.things; lost++) {
            trial.becomeAs(scene);
            trial.marks[lost] = 0;
            trial.daysGo(n);
            if (trial.hadCount >= q) {
                ways++;
            }
        }
        return partOfFraction(ways, scene.things, part);
    }

    public long mean(int part) {
        int all = 0;
        for (int t = 0; t < scene.things; t++) {
            all += Integer.bitCount(scene.marks[t]);
        }
        return partOfFraction(all, scene.things, part);
    }

    // ---- weeks, books

    public int week(int what, int n) {
        if (what == -1) {
            notes.weekCount = 0;
            return 0;
        }
        if (!isWithin(what, Notes.DAY_GOES, Notes.IS_TAKEN)) {
            return NONE;
        }
        if (what == Notes.IS_TAKEN && !scene.hasThing(n)) {
            return NONE;
        }
        if (notes.weekCount >= Notes.WEEK_LIMIT) {
            return FULL;
        }
        return notes.addToWeek(what, n);
    }

    public int ends(int what) {
        if (!isWithin(what, 0, 1)) {
            return NONE;
        }
        trial.becomeAs(scene);
        notes.goThroughWeek(trial);
        return what == 0 ? trial.hadBits : Integer.bitCount(trial.marksOf(trial.hadBits));
    }

    public int book(int thing, int marks) {
        if (thing == -1) {
            notes.bookCount = 0;
            return 0;
        }
        if (!scene.hasThing(thing)) {
            return NONE;
        }
        if (!isWithin(marks, 0, MARKS_LIMIT)) {
            return BAD;
        }
        if (notes.bookCount >= Notes.BOOK_LIMIT) {
            return FULL;
        }
        return notes.addToBook(thing, marks);
    }

    public int looked() {
        return notes.firstOtherwise(scene);
    }

    // ---- judging, the image, acts, tapes

    public int judge(int tape, int i) {
        if (!tapes.hasTape(tape)) {
            return NONE;
        }
        if (tapes.sorts[tape] != Tapes.SHORTS && tapes.sorts[tape] != Tapes.EMPTY) {
            return CAST;
        }
        for (int t = 0; t < scene.things; t++) {
            // the place is measured from the end, as i + t may be beyond the greatest int
            if (i < 0 || i >= tapes.lengths[tape] - t) {
                return 100 + t;
            }
            if (tapes.itemAt(tape, i + t) != scene.marks[t]) {
                return t;
            }
        }
        return ABSENT;
    }

    public int image() {
        keptScene.becomeAs(scene);
        keptNotes.becomeAs(notes);
        isKept = true;
        return scene.things;
    }

    public int undo() {
        if (!isKept) {
            return STATE;
        }
        scene.becomeAs(keptScene);
        notes.becomeAs(keptNotes);
        return scene.things;
    }

    public int act(int thing, int act, int x) {
        acts.forget();
        if (!scene.hasThing(thing) || !isWithin(act, Acts.LIES, Acts.TELLS)) {
            return 0;
        }
        return acts.perform(scene.kinds[thing], thing, scene.numbers[thing], act, x);
    }

    public int trace(int i) {
        return i >= 0 && i < acts.keptCount() ? acts.bodies[i] : NONE;
    }

    public int taken(int thing, int k) {
        if (!isWithin(k, THING, TOLD)) {
            return BAD;
        }
        if (!scene.hasThing(thing)) {
            return NOTHING;
        }
        int kind = scene.kinds[thing];
        return isUnder(kind, k) ? kind : CAST;
    }

    public int count(int what) {
        switch (what) {
            case 0:
                return scene.things;
            case 1:
                return streetCount;
            case 2:
                return scene.hadCount;
            case 3:
                return notes.seenCount;
            case 4:
                return notes.weekCount;
            case 5:
                return notes.bookCount;
            case 6:
                return reader.length;
            case 7:
                return acts.ran;
            default:
                return BAD;
        }
    }

    public int tape(int tape, int sort, int n) {
        if (!tapes.hasTape(tape)) {
            return NONE;
        }
        if (sort == Tapes.EMPTY) {
            tapes.makeRow(tape, Tapes.EMPTY, 0);
            return 1;
        }
        if (!isWithin(sort, Tapes.BYTES, Tapes.BOOLEANS) || n > Tapes.ITEMS_LIMIT) {
            return BAD;
        }
        if (n < 0) {
            return SIZE;
        }
        tapes.makeRow(tape, sort, n);
        return 1;
    }

    public int item(int tape, int i, long v) {
        if (!tapes.hasTape(tape)) {
            return NONE;
        }
        if (tapes.sorts[tape] == Tapes.EMPTY) {
            return NOTHING;
        }
        if (!tapes.hasPlace(tape, i)) {
            return PLACE;
        }
        tapes.setItem(tape, i, v);
        return 1;
    }

    public long read(int tape, int i) {
        if (!tapes.hasTape(tape) || !tapes.hasPlace(tape, i)) {
            return NO;
        }
        return tapes.itemAt(tape, i);
    }

    public int shift(int tape, int i, int other, int j, int n) {
        if (!tapes.hasTape(tape) || !tapes.hasTape(other)) {
            return NONE;
        }
        if (tapes.sorts[tape] == Tapes.EMPTY || tapes.sorts[other] == Tapes.EMPTY) {
            return NOTHING;
        }
        if (tapes.sorts[tape] != tapes.sorts[other]) {
            return CAST;
        }
        if (!tapes.hasStretch(tape, i, n) || !tapes.hasStretch(other, j, n)) {
            return PLACE;
        }
        tapes.copyItems(tape, i, other, j, n);
        return n;
    }

    // ---- what the calls need

    private static boolean isWithin(int n, int least, int greatest) {
        return n >= least && n <= greatest;
    }

    private static boolean isUnder(int kind, int ancestor) {
        int at = kind;
        for (int level = 0; level < KIND_ABOVE.length; level++) {
            if (at == ancestor) {
                return true;
            }
            if (at < 0 || at >= KIND_ABOVE.length) {
                return false;
            }
            at = KIND_ABOVE[at];
        }
        return false;
    }

    /** The part (0 above, 1 below the line) of a fraction in lowest terms; NO, if there is none. */
    private static long partOfFraction(int above, int below, int part) {
        if (below <= 0 || !isWithin(part, 0, 1)) {
            return NO;
        }
        int divisor = greatestDivisor(above, below);
        if (divisor <= 0) {
            return NO;
        }
        return part == 0 ? above / divisor : below / divisor;
    }

    private static int greatestDivisor(int one, int other) {
        int a = one;
        int b = other;
        for (int step = 0; step < 100 && b != 0; step++) {
            int rest = a % b;
            a = b;
            b = rest;
        }
        return a;
    }

    private int twinsNow() {
        int twins = ABSENT;
        // more than any two can be unlike
        int fewest = MARKS_LIMIT;
        for (int a = 0; a < scene.things; a++) {
            for (int b = a + 1; b < scene.things; b++) {
                int unlike = Integer.bitCount(scene.marks[a] ^ scene.marks[b]);
                if (unlike < fewest) {
                    fewest = unlike;
                    twins = 10 * a + b;
                }
            }
        }
        return twins;
    }

    private int coverNow() {
        int all = (1 << scene.things) - 1;
        int wanted = scene.marksOf(all);
        int cover = all;
        for (int set = 0; set < all; set++) {
            boolean isFewer = Integer.bitCount(set) < Integer.bitCount(cover);
            // of equally many the least as bits stays, but the whole set is the greatest there is
            if (isFewer && scene.marksOf(set) == wanted) {
                cover = set;
            }
        }
        return cover;
    }

    private int bestStart() {
        trial.becomeAs(scene);
        // the first row among the longest begins with the first of the best starts
        return search.longestRow(trial) > 0 ? search.best[0] : ABSENT;
    }

    private int bestBack() {
        trial.becomeAs(scene);
        int greatest = scene.hadCount + search.longestRow(trial);
        int back = ABSENT;
        for (int t = 0; t < scene.things; t++) {
            if (scene.isHad(t)) {
                trial.becomeAs(scene);
                trial.layDown(t);
                int together = trial.hadCount + search.longestRow(trial);
                if (together > greatest) {
                    greatest = together;
                    back = t;
                }
            }
        }
        return back;
    }

    /** THINGS, what is HAD, the DAY and the STREET that holds. */
    private static final class Scene {
        private static final int ROW_PARTS = 4;

        private int things;
        private final int[] kinds = new int[THINGS_LIMIT];
        private final int[] numbers = new int[THINGS_LIMIT];
        private final int[] marks = new int[THINGS_LIMIT];
        /** Of THINGS that are not there it is 0 throughout: an undo() brings all of it back. */
        private final int[] rows = new int[THINGS_LIMIT * ROW_PARTS];
        private final int[] had = new int[THINGS_LIMIT];
        private int hadCount;
        private int hadBits;
        private int day;
        /** null, if no STREET holds. */
        private Street held;
        private final int[] tested = new int[Street.LETTERS];

        private void becomeAs(Scene other) {
            things = other.things;
            System.arraycopy(other.kinds, 0, kinds, 0, THINGS_LIMIT);
            System.arraycopy(other.numbers, 0, numbers, 0, THINGS_LIMIT);
            System.arraycopy(other.marks, 0, marks, 0, THINGS_LIMIT);
            System.arraycopy(other.rows, 0, rows, 0, THINGS_LIMIT * ROW_PARTS);
            System.arraycopy(other.had, 0, had, 0, THINGS_LIMIT);
            hadCount = other.hadCount;
            hadBits = other.hadBits;
            day = other.day;
            held = other.held;
        }

        private boolean hasThing(int t) {
            return t >= 0 && t < things;
        }

        private int addThing(int kind, int number, int itsMarks) {
            int t = things;
            if (t >= THINGS_LIMIT) {
                return FULL;
            }
            kinds[t] = kind;
            numbers[t] = number;
            marks[t] = itsMarks;
            things = t + 1;
            return t;
        }

        private boolean isHad(int t) {
            return (hadBits >> t & 1) == 1;
        }

        private int placeInHad(int t) {
            for (int i = 0; i < hadCount; i++) {
                if (had[i] == t) {
                    return i;
                }
            }
            return ABSENT;
        }

        private void pickUp(int t) {
            if (hadCount < THINGS_LIMIT && !isHad(t)) {
                had[hadCount] = t;
                hadCount++;
                hadBits |= 1 << t;
            }
        }

        private int layDownNewest() {
            if (hadCount == 0) {
                return ABSENT;
            }
            hadCount--;
            int newest = had[hadCount];
            hadBits &= ~(1 << newest);
            return newest;
        }

        private void layDown(int t) {
            int kept = 0;
            for (int i = 0; i < hadCount; i++) {
                if (had[i] != t) {
                    had[kept] = had[i];
                    kept++;
                }
            }
            hadCount = kept;
            hadBits &= ~(1 << t);
        }

        private int needNow() {
            return held == null ? NEED_WITHOUT : held.need;
        }

        private int holdNow() {
            return held == null ? HOLD_WITHOUT : held.hold;
        }

        /** All MARKS of a set of THINGS. */
        private int marksOf(int set) {
            int all = 0;
            for (int t = 0; t < things; t++) {
                if ((set >> t & 1) == 1) {
                    all |= marks[t];
                }
            }
            return all;
        }

        private int alikeOf(int t) {
            return Integer.bitCount(marks[t] & marksOf(hadBits));
        }

        private int tasteOf(int t) {
            if (held == null) {
                return 0;
            }
            // in the order of the letters that a TEST may have
            tested[0] = t;
            tested[1] = kinds[t];
            tested[2] = numbers[t];
            tested[3] = Integer.bitCount(marks[t]);
            tested[4] = hadCount;
            tested[5] = day % 10;
            return held.sumFor(tested);
        }

        private boolean goesNow(int t) {
            if (isHad(t) || hadCount >= holdNow()) {
                return false;
            }
            if (hadCount == 0) {
                return true;
            }
            boolean isEnough = alikeOf(t) + tasteOf(t) >= needNow();
            int newest = had[hadCount - 1];
            switch (kinds[t]) {
                case GLOVE:
                    return isEnough && hasEqual(t);
                case KEY:
                    return isEnough && (marks[t] & marks[newest]) == 0;
                case LETTER:
                    return !isEnough && hasFewer(newest, t);
                case BAIT:
                    return isEnough && hasEqual(t) || numbers[t] < hadCount;
                case TICKET:
                    return isEnough && (day % 2 != 0 || (marks[t] & marks[newest]) == 0);
                case TOLD:
                    return !isEnough && hasFewer(newest, t)
                        || rows[t * ROW_PARTS + day % ROW_PARTS] == hadCount;
                default:
                    return isEnough;
            }
        }

        /** Whether some THING HAD has as many MARKS as t. */
        private boolean hasEqual(int t) {
            int many = Integer.bitCount(marks[t]);
            for (int i = 0; i < hadCount; i++) {
                if (Integer.bitCount(marks[had[i]]) == many) {
                    return true;
                }
            }
            return false;
        }

        private boolean hasFewer(int t, int other) {
            return Integer.bitCount(marks[t]) < Integer.bitCount(marks[other]);
        }

        private int goingBits() {
            int bits = 0;
            for (int t = 0; t < things; t++) {
                if (goesNow(t)) {
                    bits |= 1 << t;
                }
            }
            return bits;
        }

        private void dayGoes() {
            if (things > 0) {
                int t = day % things;
                if (goesNow(t)) {
                    pickUp(t);
                }
            }
            day++;
        }

        private void daysGo(int n) {
            for (int i = 0; i < n; i++) {
                dayGoes();
            }
        }
    }

    /** A STREET as a row of steps, each behind what it works on. */
    private static final class Street {
        private static final int LETTERS = 6;
        private static final int NOT = 1, AND = 2, OR = 3;
        /** A step from LIKE on likes, one from MIND on minds by the rest; one from TEST on is a TEST. */
        private static final int LIKE = 100, MIND = 200, TEST = 1000;
        private static final int LETTER_STEP = 1000, SIGN_STEP = 100;

        private final int[] code;
        private final int need;
        private final int hold;

        private Street(int[] steps, int size, int need, int hold) {
            int length = Math.max(0, Math.min(size, steps.length));
            this.code = new int[length];
            System.arraycopy(steps, 0, this.code, 0, length);
            this.need = need;
            this.hold = hold;
        }

        /** TASTE: what was found so far stands as bits, the latest lowest; eleven at most, as ( and ! go four deep. */
        private int sumFor(int[] tested) {
            int sum = 0;
            int found = 0;
            for (int i = 0; i < code.length; i++) {
                int step = code[i];
                int latest = found & 1;
                int rest = found >>> 1;
                if (step >= TEST) {
                    found = found << 1 | (isSo(step, tested) ? 1 : 0);
                } else if (step >= MIND) {
                    sum -= latest * (step - MIND);
                    found = rest;
                } else if (step >= LIKE) {
                    sum += latest * (step - LIKE);
                    found = rest;
                } else if (step == NOT) {
                    found ^= 1;
                } else if (step == AND) {
                    found = latest == 1 ? rest : rest & ~1;
                } else {
                    found = rest | latest;
                }
            }
            return sum;
        }

        private static boolean isSo(int step, int[] tested) {
            int letter = step / LETTER_STEP - 1;
            if (letter < 0 || letter >= tested.length) {
                return false;
            }
            int value = tested[letter];
            int number = step % SIGN_STEP;
            switch (step % LETTER_STEP / SIGN_STEP) {
                case 0:
                    return value < number;
                case 1:
                    return value == number;
                default:
                    return value > number;
            }
        }
    }

    /** THE TEXT, and how a STREET is read from it. */
    private static final class StreetReader {
        private static final int TEXT_LIMIT = 100;
        private static final int SIGN_LIMIT = 127;
        private static final int CLAUSES_LIMIT = 10;
        private static final int NESTING_LIMIT = 4;
        private static final String LETTERS = "tkvmwd";
        private static final String SIGNS = "<=>";

        private final int[] text = new int[TEXT_LIMIT];
        private int length;
        /** Each step is of a sign of its own, so there are never more steps than signs. */
        private final int[] code = new int[TEXT_LIMIT];
        private int size;
        private int need;
        private int hold;
        /** What is read next; the FAULT, once a part could not be read. */
        private int place;
        private int number;

        private int addSign(int sign) {
            if (length < TEXT_LIMIT) {
                text[length] = sign;
                length++;
            }
            return length;
        }

        private boolean readStreet() {
            place = 0;
            size = 0;
            need = NEED_WITHOUT;
            hold = HOLD_WITHOUT;
            for (int clause = 1; clause <= CLAUSES_LIMIT; clause++) {
                if (!readClause()) {
                    return false;
                }
                if (place >= length) {
                    return true;
                }
                if (clause == CLAUSES_LIMIT || !readSign(';')) {
                    return false;
                }
            }
            return false;
        }

        private boolean readClause() {
            int first = nextSign();
            if (!readNumbered(wordFrom(first))) {
                return false;
            }
            // the TESTS of an E have numbers of their own
            int n = number;
            if (first == 'n') {
                need = n;
                return true;
            }
            if (first == 'h') {
                hold = Math.max(1, n);
                return true;
            }
            if (!readSign(' ') || !readEither(0)) {
                return false;
            }
            addStep(first == 'l' ? Street.LIKE + n : Street.MIND + n);
            return true;
        }

        private static String wordFrom(int first) {
            switch (first) {
                case 'l':
                    return "like";
                case 'm':
                    return "mind";
                case 'n':
                    return "need";
                case 'h':
                    return "hold";
                default:
                    return "";
            }
        }

        private boolean readNumbered(String word) {
            if (word.isEmpty()) {
                return false;
            }
            for (int i = 0; i < word.length(); i++) {
                if (!readSign(word.charAt(i))) {
                    return false;
                }
            }
            return readSign(' ') && readNumber();
        }

        private boolean readEither(int depth) {
            if (!readBoth(depth)) {
                return false;
            }
            for (int i = 0; i < TEXT_LIMIT && nextSign() == '|'; i++) {
                place++;
                if (!readBoth(depth)) {
                    return false;
                }
                addStep(Street.OR);
            }
            return true;
        }

        private boolean readBoth(int depth) {
            if (!readPart(depth)) {
                return false;
            }
            for (int i = 0; i < TEXT_LIMIT && nextSign() == '&'; i++) {
                place++;
                if (!readPart(depth)) {
                    return false;
                }
                addStep(Street.AND);
            }
            return true;
        }

        private boolean readPart(int depth) {
            int sign = nextSign();
            if (sign != '!' && sign != '(') {
                return readTest(sign);
            }
            if (depth >= NESTING_LIMIT) {
                return false;
            }
            place++;
            if (sign == '(') {
                return readEither(depth + 1) && readSign(')');
            }
            if (!readPart(depth + 1)) {
                return false;
            }
            addStep(Street.NOT);
            return true;
        }

        private boolean readTest(int sign) {
            int letter = sign < 0 ? -1 : LETTERS.indexOf((char) sign);
            if (letter < 0) {
                return false;
            }
            place++;
            int next = nextSign();
            int relation = next < 0 ? -1 : SIGNS.indexOf((char) next);
            if (relation < 0) {
                return false;
            }
            place++;
            if (!readNumber()) {
                return false;
            }
            addStep(Street.TEST + letter * Street.LETTER_STEP + relation * Street.SIGN_STEP + number);
            return true;
        }

        private boolean readNumber() {
            int digits = 0;
            number = 0;
            while (digits < 2 && place < length && text[place] >= '0' && text[place] <= '9') {
                number = number * 10 + text[place] - '0';
                place++;
                digits++;
            }
            return digits > 0;
        }

        private int nextSign() {
            return place >= 0 && place < length && place < TEXT_LIMIT ? text[place] : -1;
        }

        private boolean readSign(int sign) {
            if (nextSign() != sign) {
                return false;
            }
            place++;
            return true;
        }

        private void addStep(int step) {
            if (size < TEXT_LIMIT) {
                code[size] = step;
                size++;
            }
        }
    }

    /** Rows of THINGS that are taken one behind the other. */
    private static final class Search {
        private final int[] tried = new int[THINGS_LIMIT];
        private final int[] best = new int[THINGS_LIMIT];
        private int bestLength;
        private int fewest;

        /** MOST: how many; the row stands in best. */
        private int longestRow(Scene on) {
            bestLength = 0;
            int limit = Math.min(on.things, on.holdNow()) - on.hadCount;
            extendRow(on, 0, limit);
            return bestLength;
        }

        // by rising numbers, so that of rows of one length the first is met first
        private void extendRow(Scene on, int depth, int limit) {
            if (depth >= THINGS_LIMIT) {
                return;
            }
            for (int t = 0; t < on.things && bestLength < limit; t++) {
                if (on.goesNow(t)) {
                    tried[depth] = t;
                    keepIfLonger(depth + 1);
                    on.pickUp(t);
                    extendRow(on, depth + 1, limit);
                    on.layDownNewest();
                }
            }
        }

        private void keepIfLonger(int length) {
            if (length > bestLength && length <= THINGS_LIMIT) {
                System.arraycopy(tried, 0, best, 0, length);
                bestLength = length;
            }
        }

        /** REACH. */
        private int fewestAhead(Scene on, int target) {
            fewest = THINGS_LIMIT;
            seekTarget(on, target, 0);
            return fewest < THINGS_LIMIT ? fewest : ABSENT;
        }

        private void seekTarget(Scene on, int target, int depth) {
            if (depth >= fewest) {
                return;
            }
            if (on.goesNow(target)) {
                fewest = depth;
                return;
            }
            for (int t = 0; t < on.things; t++) {
                if (t != target && on.goesNow(t)) {
                    on.pickUp(t);
                    seekTarget(on, target, depth + 1);
                    on.layDownNewest();
                }
            }
        }
    }

    /** SEEN, the WEEK and the BOOK. */
    private static final class Notes {
        private static final int SEEN_LIMIT = 5, SEEN_DAYS = 20;
        private static final int WEEK_LIMIT = 10;
        private static final int BOOK_LIMIT = 8;
        private static final int DAY_GOES = 0, IS_PUT_BACK = 1, IS_TAKEN = 2;

        private final int[] seenThings = new int[SEEN_LIMIT];
        /** 1, if the THING is told as HAD then. */
        private final int[] seenHad = new int[SEEN_LIMIT];
        private final int[] seenDays = new int[SEEN_LIMIT];
        private int seenCount;
        private final int[] weekWhats = new int[WEEK_LIMIT];
        private final int[] weekThings = new int[WEEK_LIMIT];
        private int weekCount;
        private final int[] bookThings = new int[BOOK_LIMIT];
        private final int[] bookMarks = new int[BOOK_LIMIT];
        private int bookCount;

        private void becomeAs(Notes other) {
            System.arraycopy(other.seenThings, 0, seenThings, 0, SEEN_LIMIT);
            System.arraycopy(other.seenHad, 0, seenHad, 0, SEEN_LIMIT);
            System.arraycopy(other.seenDays, 0, seenDays, 0, SEEN_LIMIT);
            seenCount = other.seenCount;
            System.arraycopy(other.weekWhats, 0, weekWhats, 0, WEEK_LIMIT);
            System.arraycopy(other.weekThings, 0, weekThings, 0, WEEK_LIMIT);
            weekCount = other.weekCount;
            System.arraycopy(other.bookThings, 0, bookThings, 0, BOOK_LIMIT);
            System.arraycopy(other.bookMarks, 0, bookMarks, 0, BOOK_LIMIT);
            bookCount = other.bookCount;
        }

        private int addSeen(int t, boolean isHad, int days) {
            if (seenCount < SEEN_LIMIT) {
                seenThings[seenCount] = t;
                seenHad[seenCount] = isHad ? 1 : 0;
                seenDays[seenCount] = days;
                seenCount++;
            }
            return seenCount;
        }

        private int addToWeek(int what, int n) {
            if (weekCount < WEEK_LIMIT) {
                weekWhats[weekCount] = what;
                weekThings[weekCount] = n;
                weekCount++;
            }
            return weekCount;
        }

        private int addToBook(int t, int marks) {
            if (bookCount < BOOK_LIMIT) {
                bookThings[bookCount] = t;
                bookMarks[bookCount] = marks;
                bookCount++;
            }
            return bookCount;
        }

        /** Whether all of SEEN is so; the DAYS go on where it is tried. */
        private boolean isAllSeen(Scene on) {
            int last = 0;
            for (int i = 0; i < seenCount; i++) {
                last = Math.max(last, seenDays[i]);
            }
            for (int days = 0; days <= last; days++) {
                if (!isSeenBehind(on, days)) {
                    return false;
                }
                on.dayGoes();
            }
            return true;
        }

        private boolean isSeenBehind(Scene on, int days) {
            for (int i = 0; i < seenCount; i++) {
                if (seenDays[i] == days && on.isHad(seenThings[i]) != (seenHad[i] == 1)) {
                    return false;
                }
            }
            return true;
        }

        private void goThroughWeek(Scene on) {
            for (int i = 0; i < weekCount; i++) {
                if (weekWhats[i] == DAY_GOES) {
                    on.dayGoes();
                } else if (weekWhats[i] == IS_PUT_BACK) {
                    on.layDownNewest();
                } else if (on.hasThing(weekThings[i]) && on.goesNow(weekThings[i])) {
                    on.pickUp(weekThings[i]);
                }
            }
        }

        private int firstOtherwise(Scene on) {
            for (int i = 0; i < bookCount; i++) {
                int t = bookThings[i];
                if (on.hasThing(t) && on.marks[t] != bookMarks[i]) {
                    return i;
                }
            }
            return ABSENT;
        }
    }

    /** What THINGS of their KINDS do, body by body. */
    private static final class Acts {
        private static final int LIES = 0, FITS = 1, TELLS = 2;
        private static final int TRACE_LIMIT = 20;
        private static final int DEPTH_LIMIT = 30;

        private final int[] bodies = new int[TRACE_LIMIT];
        private int ran;
        private int kind;
        private int i;
        private int v;

        private void forget() {
            ran = 0;
        }

        private int keptCount() {
            return Math.min(ran, TRACE_LIMIT);
        }

        private int perform(int itsKind, int thing, int number, int what, int x) {
            kind = itsKind;
            i = thing;
            v = number;
            if (what == LIES) {
                return runLies(kind, x, 0);
            }
            return what == FITS ? runFits(kind, x, 0) : runTells(kind, x, 0);
        }

        private void begin(int body) {
            if (ran < TRACE_LIMIT) {
                bodies[ran] = body;
            }
            ran++;
        }

        private static int above(int level) {
            return level > THING && level < KIND_ABOVE.length ? KIND_ABOVE[level] : THING;
        }

        // level: the KIND from which on a body is looked for
        private int runLies(int level, int x, int depth) {
            if (depth > DEPTH_LIMIT) {
                return 0;
            }
            switch (level) {
                case THING:
                    begin(10);
                    return x + i;
                case KEY:
                    begin(30);
                    return runLies(above(KEY), x * 3, depth + 1);
                case BAIT:
                    begin(50);
                    return -runLies(above(BAIT), x, depth + 1);
                case TOLD:
                    begin(71);
                    return runLies(above(TOLD), x, depth + 1) ^ v;
                default:
                    return runLies(above(level), x, depth + 1);
            }
        }

        private int runFits(int level, int x, int depth) {
            if (depth > DEPTH_LIMIT) {
                return 0;
            }
            switch (level) {
                case THING:
                    begin(11);
                    return runLies(kind, x, depth + 1) - v;
                case GLOVE:
                    begin(20);
                    return runFits(above(GLOVE), x, depth + 1) ^ 6;
                case BAIT:
                    begin(51);
                    return runFits(above(BAIT), x + 1, depth + 1);
                case TOLD:
                    begin(70);
                    return runFits(above(TOLD), x, depth + 1) + runLies(above(TOLD), 2, depth + 1);
                default:
                    return runFits(above(level), x, depth + 1);
            }
        }

        private int runTells(int level, int x, int depth) {
            if (depth > DEPTH_LIMIT) {
                return 0;
            }
            switch (level) {
                case THING:
                    begin(12);
                    return runFits(kind, x, depth + 1) * 2;
                case LETTER:
                    begin(40);
                    return runTells(above(LETTER), x, depth + 1) + runFits(kind, 1, depth + 1);
                case TICKET:
                    begin(60);
                    return runTells(above(TICKET), x - i, depth + 1);
                default:
                    return runTells(above(level), x, depth + 1);
            }
        }
    }

    /** TAPES: rows of one sort each, all in one row of longs. */
    private static final class Tapes {
        private static final int TAPES_LIMIT = 6, ITEMS_LIMIT = 60;
        private static final int EMPTY = -1, BYTES = 0, SHORTS = 1, INTS = 2, LONGS = 3, BOOLEANS = 4;

        private final int[] sorts = {EMPTY, EMPTY, EMPTY, EMPTY, EMPTY, EMPTY};
        private final int[] lengths = new int[TAPES_LIMIT];
        private final long[] items = new long[TAPES_LIMIT * ITEMS_LIMIT];

        private boolean hasTape(int tape) {
            return tape >= 0 && tape < TAPES_LIMIT;
        }

        private boolean hasPlace(int tape, int i) {
            return i >= 0 && i < lengths[tape];
        }

        /** Whether n items from i on are there; measured from the end, as i + n may be beyond the greatest int. */
        private boolean hasStretch(int tape, int i, int n) {
            return n >= 0 && i >= 0 && n <= lengths[tape] && i <= lengths[tape] - n;
        }

        private void makeRow(int tape, int sort, int n) {
            sorts[tape] = sort;
            lengths[tape] = n;
            for (int i = 0; i < n; i++) {
                items[tape * ITEMS_LIMIT + i] = 0;
            }
        }

        private long itemAt(int tape, int i) {
            return items[tape * ITEMS_LIMIT + i];
        }

        private void setItem(int tape, int i, long v) {
            items[tape * ITEMS_LIMIT + i] = cutTo(sorts[tape], v);
        }

        private static long cutTo(int sort, long v) {
            switch (sort) {
                case BYTES:
                    return (byte) v;
                case SHORTS:
                    return (short) v;
                case INTS:
                    return (int) v;
                case BOOLEANS:
                    return v != 0 ? 1 : 0;
                default:
                    return v;
            }
        }

        private void copyItems(int tape, int i, int other, int j, int n) {
            System.arraycopy(items, tape * ITEMS_LIMIT + i, items, other * ITEMS_LIMIT + j, n);
        }
    }
}
