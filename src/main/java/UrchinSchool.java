import java.util.Arrays;

/** Sea urchins in a row that the swell teaches one fact a tide; ../shared/DOC.md tells what each call does. */
public final class UrchinSchool {
    public static final int NONE = -1, BAD = -2, STATE = -3, FULL = -4;
    public static final long NO = Long.MIN_VALUE;

    private static final int NONE_BY_HEED = -999999;
    private static final int NOTHING = -5;
    private static final int OTHER_KIND = -6;
    private static final int FAULT_AT = -10;

    private static final int FACTS = 8;
    private static final int ALL_FACTS = 255;
    /** The lesson of a tide that teaches nothing. */
    private static final int NO_FACT = 8;
    private static final int CHOICES = 9;

    private static final int URCHINS = 6;
    private static final int KINDS = 7;
    private static final int TOLD_KIND = 6;
    private static final int LESSONS = 4;
    private static final int GREATEST_NUMBER = 9;

    private static final int TAPE = 100;
    private static final int GREATEST_SIGN = 127;

    private static final int TIDES_AHEAD = 60;
    private static final int LAST_TIDE = 9999;
    private static final int SEEN_TIDES = 12;
    private static final int SEEN_ROWS = 5;
    private static final int HAND_ROWS = 8;
    private static final int TRACED = 20;

    /** The kind above each kind, by number; none above the first. */
    private static final int[] ABOVE = {-1, 0, 0, 0, 1, 2, 3};

    private final School now = new School();
    private final School kept = new School();
    /** What is asked goes on in this one, so that nothing changes in the other. */
    private final School ahead = new School();
    private final Heeds heeds = new Heeds();
    private final Ledge bare = new Ledge();
    private final Ledge[] ledges = {new Ledge(), new Ledge(), new Ledge(), new Ledge(), new Ledge()};
    private boolean imageTaken;
    /** The kind that holds the trace of the latest act, null if there is none. */
    private Urchin actor;

    public UrchinSchool() {
    }

    // ---- ledges, urchins, lessons

    public int feed(int sign) {
        if (sign < 0 || sign > GREATEST_SIGN) {
            return BAD;
        }
        if (now.signs < 0 || now.signs >= now.tape.length) {
            return FULL;
        }
        now.tape[now.signs] = (byte) sign;
        now.signs++;
        return now.signs;
    }

    public int ledge() {
        if (now.ledges < 0 || now.ledges >= ledges.length) {
            return FULL;
        }
        int fault = ledges[now.ledges].read(now.tape, now.signs);
        now.signs = 0;
        if (fault >= 0) {
            return FAULT_AT - fault;
        }
        now.ledges++;
        return now.ledges - 1;
    }

    public int urchin(int kind, int v) {
        if (kind < 0 || kind >= KINDS) {
            return NONE;
        }
        if (!isNumber(v)) {
            return BAD;
        }
        return now.join(kind, v);
    }

    public int of(int urchin, int what) {
        if (!now.has(urchin)) {
            return NONE_BY_HEED;
        }
        switch (what) {
            case 0:
                return now.kind[urchin];
            case 1:
                return now.v[urchin];
            case 2:
                return now.knows[urchin];
            case 3:
                return now.isOut(urchin) ? 1 : 0;
            default:
                return isFact(what - 10L) ? heeds.heedOf(now, holding(), urchin, what - 10) : NONE_BY_HEED;
        }
    }

    public int row(int urchin, int k, int n) {
        if (!now.has(urchin) || !isLesson(k)) {
            return NONE;
        }
        if (!isNumber(n)) {
            return BAD;
        }
        if (now.kind[urchin] != TOLD_KIND) {
            return STATE;
        }
        int at = urchin * LESSONS + k;
        int was = now.rows[at];
        now.rows[at] = n;
        return was;
    }

    public int learn(int urchin, int facts) {
        if (!now.has(urchin)) {
            return NONE;
        }
        if (!isSet(facts)) {
            return BAD;
        }
        int was = now.knows[urchin];
        now.knows[urchin] = facts;
        return was;
    }

    public int beach(int urchin, boolean is) {
        if (!now.has(urchin)) {
            return NONE;
        }
        int was = now.isOut(urchin) ? 1 : 0;
        now.putOut(urchin, is);
        return was;
    }

    public int lesson(int k, int fact) {
        if (!isLesson(k) || fact != -1 && !isFact(fact)) {
            return NONE;
        }
        int was = now.lessons[k];
        now.lessons[k] = fact == -1 ? NO_FACT : fact;
        return was == NO_FACT ? NOTHING : was;
    }

    public int told(int what) {
        switch (what) {
            case 0:
                return now.tide;
            case 1:
                return holding().keep;
            case 2:
                return holding().pass;
            case 3:
                return now.all();
            case 4:
                return now.held();
            case 5:
                return now.out;
            case 6:
                return now.few();
            default:
                return toldLesson(what);
        }
    }

    private int toldLesson(int what) {
        if (what < 10 || what >= 10 + LESSONS) {
            return NONE;
        }
        int fact = now.lessons[what - 10];
        return fact == NO_FACT ? NOTHING : fact;
    }

    public int pass(int n) {
        if (!areTides(n)) {
            return BAD;
        }
        if (now.tide + n > LAST_TIDE) {
            return STATE;
        }
        heeds.forget();
        go(now, n);
        return now.tide;
    }

    // ---- tides to come, lessons

    public int on(int n, int what) {
        boolean ofOne = what >= 10 && now.has(what - 10);
        if (what != 0 && what != 1 && !ofOne) {
            return NONE;
        }
        if (!areTides(n)) {
            return BAD;
        }
        heeds.forget();
        ahead.becomeRow(now);
        go(ahead, n);
        if (ofOne) {
            return ahead.knows[what - 10];
        }
        return what == 0 ? ahead.all() : ahead.held();
    }

    public int lasts(int fact) {
        if (!isFact(fact)) {
            return NONE;
        }
        heeds.forget();
        ahead.becomeRow(now);
        int tides = tidesAheadWith(fact);
        return tides > TIDES_AHEAD ? NOTHING : tides;
    }

    public int teach(int n, int k) {
        if (k < -1 || k > 2) {
            return NONE;
        }
        if (n < 1 || n > 3) {
            return BAD;
        }
        if (k >= n) {
            return NOTHING;
        }
        heeds.forget();
        int rows = n == 1 ? CHOICES : n == 2 ? CHOICES * CHOICES : CHOICES * CHOICES * CHOICES;
        int most = -1;
        int best = 0;
        for (int row = 0; row < rows; row++) {
            int held = heldIfTaught(row, n);
            if (held > most) {
                most = held;
                best = row;
            }
        }
        return k == -1 ? most : taughtAt(best, n, k);
    }

    public int tell(int fact) {
        if (!isFact(fact)) {
            return NONE;
        }
        heeds.forget();
        int most = -1;
        int best = NOTHING;
        for (int i = 0; i < now.size && i < URCHINS; i++) {
            int tides = now.isOut(i) ? -1 : tidesIfTold(i, fact);
            if (tides > most) {
                most = tides;
                best = i;
            }
        }
        return best;
    }

    private int tidesIfTold(int urchin, int fact) {
        ahead.becomeRow(now);
        ahead.tellFact(urchin, fact);
        return tidesAheadWith(fact);
    }

    /** In how many tides a fact is first not of all; one more than are looked at, if it is by then. */
    private int tidesAheadWith(int fact) {
        Ledge ledge = holding();
        for (int n = 0; n <= TIDES_AHEAD; n++) {
            if ((ahead.all() & 1 << fact) == 0) {
                return n;
            }
            ahead.goTide(heeds, ledge, ahead.lessonNow());
        }
        return TIDES_AHEAD + 1;
    }

    private int heldIfTaught(int row, int n) {
        Ledge ledge = holding();
        ahead.becomeRow(now);
        for (int k = 0; k < n; k++) {
            ahead.goTide(heeds, ledge, taughtAt(row, n, k));
        }
        return ahead.held();
    }

    /** The k-th of the n lessons of a row, which is a number whose digits are lessons, to the base of nine. */
    private static int taughtAt(int row, int n, int k) {
        int rest = row;
        for (int behind = n - 1; behind > k; behind--) {
            rest = rest / CHOICES;
        }
        return rest % CHOICES;
    }

    // ---- seen, odds; part 0 above, 1 below the line

    public int see(int urchin, int n, int fact, boolean knows) {
        if (urchin == -1) {
            return now.seen.empty();
        }
        if (!now.has(urchin) || !isFact(fact)) {
            return NONE;
        }
        if (n < 0 || n > SEEN_TIDES) {
            return BAD;
        }
        return now.seen.add(urchin, n, fact, knows ? 1 : 0);
    }

    public int knew(int urchin, int what) {
        if (!now.has(urchin) || !isPart(what)) {
            return NONE;
        }
        heeds.forget();
        int many = 0;
        int least = NOTHING;
        for (int set = ALL_FACTS; set >= 0; set--) {
            ahead.becomeRow(now);
            ahead.knows[urchin] = set;
            if (seenIsSo()) {
                many++;
                least = set;
            }
        }
        return what == 0 ? many : least;
    }

    public int firm(int urchin, int what) {
        if (!now.has(urchin) || !isPart(what)) {
            return NONE;
        }
        int many = 0;
        int least = NOTHING;
        for (int v = GREATEST_NUMBER; v >= 0; v--) {
            heeds.forget();
            ahead.becomeRow(now);
            ahead.v[urchin] = v;
            if (seenIsSo()) {
                many++;
                least = v;
            }
        }
        return what == 0 ? many : least;
    }

    /** Whether all that was seen comes so from how it is ahead. */
    private boolean seenIsSo() {
        Ledge ledge = holding();
        int last = now.lastSeen();
        for (int n = 0; n <= last; n++) {
            if (n > 0) {
                ahead.goTide(heeds, ledge, ahead.lessonNow());
            }
            if (!ahead.isAsSeen(now.seen, n)) {
                return false;
            }
        }
        return true;
    }

    public long odds(int fact, int n, int part) {
        if (!isFact(fact) || !areTides(n) || !isPart(part)) {
            return NO;
        }
        heeds.forget();
        int with = 0;
        for (int i = 0; i < now.size && i < URCHINS; i++) {
            if (!now.isOut(i)) {
                ahead.becomeRow(now);
                ahead.knows[i] = 0;
                go(ahead, n);
                with += ahead.all() >> fact & 1;
            }
        }
        return lowest(with, now.notOut(), part);
    }

    public long mean(int part) {
        return isPart(part) ? lowest(now.held(), now.notOut(), part) : NO;
    }

    /** A part of a fraction in lowest terms; none, if nothing is below the line. */
    private static long lowest(int above, int below, int part) {
        if (below <= 0) {
            return NO;
        }
        int divisor = below;
        int rest = above;
        for (int n = 0; n < 100 && rest > 0; n++) {
            int next = divisor % rest;
            divisor = rest;
            rest = next;
        }
        if (divisor <= 0) {
            return NO;
        }
        return part == 0 ? above / divisor : below / divisor;
    }

    // ---- plans, books

    public int plan(int what, int n) {
        if (what == -1) {
            return now.plan.empty();
        }
        if (!isPlan(what, n)) {
            return NONE;
        }
        return now.plan.add(what, n, 0, 0);
    }

    private boolean isPlan(int what, int n) {
        switch (what) {
            case 0:
                return true;
            case 1:
            case 2:
                return now.has(n);
            case 3:
                return n >= 0 && now.has(n / 10) && isFact(n % 10);
            default:
                return false;
        }
    }

    public int done(int what) {
        if (!isPart(what)) {
            return NONE;
        }
        heeds.forget();
        ahead.becomeRow(now);
        for (int i = 0; i < now.plan.size; i++) {
            doPlanned(now.plan.cell(i, 0), now.plan.cell(i, 1));
        }
        return what == 0 ? ahead.all() : ahead.held();
    }

    private void doPlanned(int what, int n) {
        if (what == 0) {
            go(ahead, 1);
        } else if (what == 3) {
            ahead.tellFact(n / 10, n % 10);
        } else {
            ahead.putOut(n, what == 1);
        }
    }

    public int book(int urchin, int facts) {
        if (urchin == -1) {
            return now.book.empty();
        }
        if (!now.has(urchin)) {
            return NONE;
        }
        if (!isSet(facts)) {
            return BAD;
        }
        return now.book.add(urchin, facts, 0, 0);
    }

    public int looked() {
        for (int i = 0; i < now.book.size; i++) {
            int urchin = now.book.cell(i, 0);
            if (now.has(urchin) && now.knows[urchin] != now.book.cell(i, 1)) {
                return i;
            }
        }
        return NOTHING;
    }

    // ---- acts, the image

    public int act(int urchin, int act, int x) {
        actor = null;
        if (!now.has(urchin) || act < 0 || act > 2) {
            return 0;
        }
        Urchin one = heeds.kindOf(now.kind[urchin]);
        one.wake(urchin, now.v[urchin]);
        actor = one;
        if (act == 0) {
            return one.leans(x);
        }
        return act == 1 ? one.says(x) : one.bristles(x);
    }

    public int trace(int i) {
        return actor == null ? NONE : actor.bodyAt(i);
    }

    public int as(int urchin, int k) {
        if (!now.has(urchin) || k < 0 || k >= KINDS) {
            return NONE;
        }
        int kind = now.kind[urchin];
        for (int n = 0; n < KINDS && kind >= 0 && kind < ABOVE.length; n++) {
            if (kind == k) {
                return now.v[urchin];
            }
            kind = ABOVE[kind];
        }
        return OTHER_KIND;
    }

    public int image() {
        kept.become(now);
        imageTaken = true;
        return now.size;
    }

    public int undo() {
        if (!imageTaken) {
            return STATE;
        }
        now.become(kept);
        return now.size;
    }

    public int count(int what) {
        switch (what) {
            case 0:
                return now.size;
            case 1:
                return now.ledges;
            case 2:
                return now.seen.size;
            case 3:
                return now.plan.size;
            case 4:
                return now.book.size;
            case 5:
                return now.signs;
            case 6:
                return actor == null ? 0 : actor.ran;
            default:
                return NONE;
        }
    }

    // ---- what the calls share

    /** The newest ledge; a slot below the image's number of ledges is never read into again, so undo needs but that. */
    private Ledge holding() {
        int newest = now.ledges - 1;
        return newest >= 0 && newest < ledges.length ? ledges[newest] : bare;
    }

    private void go(School school, int n) {
        Ledge ledge = holding();
        for (int i = 0; i < n; i++) {
            school.goTide(heeds, ledge, school.lessonNow());
        }
    }

    /** A long, so that a number that was taken from the caller's does not wrap. */
    private static boolean isFact(long fact) {
        return fact >= 0 && fact < FACTS;
    }

    private static boolean isSet(int facts) {
        return facts >= 0 && facts <= ALL_FACTS;
    }

    private static boolean isNumber(int n) {
        return n >= 0 && n <= GREATEST_NUMBER;
    }

    private static boolean isLesson(int k) {
        return k >= 0 && k < LESSONS;
    }

    private static boolean areTides(int n) {
        return n >= 0 && n <= TIDES_AHEAD;
    }

    private static boolean isPart(int part) {
        return part == 0 || part == 1;
    }

    /** All that the image holds. */
    private static final class School {
        final int[] kind = new int[URCHINS];
        final int[] v = new int[URCHINS];
        final int[] knows = new int[URCHINS];
        /** Four numbers an urchin, looked at for told ones alone. */
        final int[] rows = new int[URCHINS * LESSONS];
        final int[] lessons = {NO_FACT, NO_FACT, NO_FACT, NO_FACT};
        int size;
        int out;
        int tide;

        final byte[] tape = new byte[TAPE];
        int signs;
        int ledges;
        final Table seen = new Table(SEEN_ROWS);
        final Table plan = new Table(HAND_ROWS);
        final Table book = new Table(HAND_ROWS);

        void become(School other) {
            becomeRow(other);
            System.arraycopy(other.tape, 0, tape, 0, TAPE);
            signs = other.signs;
            ledges = other.ledges;
            seen.takeOver(other.seen);
            plan.takeOver(other.plan);
            book.takeOver(other.book);
        }

        /** Takes over what tides go by, which is all that a look ahead needs. */
        void becomeRow(School other) {
            System.arraycopy(other.kind, 0, kind, 0, URCHINS);
            System.arraycopy(other.v, 0, v, 0, URCHINS);
            System.arraycopy(other.knows, 0, knows, 0, URCHINS);
            System.arraycopy(other.rows, 0, rows, 0, URCHINS * LESSONS);
            System.arraycopy(other.lessons, 0, lessons, 0, LESSONS);
            size = other.size;
            out = other.out;
            tide = other.tide;
        }

        int join(int newKind, int newV) {
            if (size < 0 || size >= URCHINS) {
                return FULL;
            }
            kind[size] = newKind;
            v[size] = newV;
            knows[size] = 0;
            for (int k = 0; k < LESSONS; k++) {
                rows[size * LESSONS + k] = 0;
            }
            putOut(size, false);
            size++;
            return size - 1;
        }

        boolean has(int i) {
            return i >= 0 && i < size && i < URCHINS;
        }

        boolean isOut(int i) {
            return (out >> i & 1) == 1;
        }

        void putOut(int i, boolean is) {
            out = is ? out | 1 << i : out & ~(1 << i);
        }

        void tellFact(int i, int fact) {
            if (has(i)) {
                knows[i] |= 1 << fact;
            }
        }

        int all() {
            int facts = 0;
            for (int i = 0; i < size && i < URCHINS; i++) {
                facts |= isOut(i) ? 0 : knows[i];
            }
            return facts;
        }

        int held() {
            int many = 0;
            for (int i = 0; i < size && i < URCHINS; i++) {
                many += isOut(i) ? 0 : Integer.bitCount(knows[i]);
            }
            return many;
        }

        int notOut() {
            int many = 0;
            for (int i = 0; i < size && i < URCHINS; i++) {
                many += isOut(i) ? 0 : 1;
            }
            return many;
        }

        int few() {
            int facts = all();
            int fewest = URCHINS + 1;
            int best = 0;
            for (int set = 0; set < 1 << size; set++) {
                if (Integer.bitCount(set) < fewest && (set & out) == 0 && knownBy(set) == facts) {
                    fewest = Integer.bitCount(set);
                    best = set;
                }
            }
            return best;
        }

        private int knownBy(int set) {
            int facts = 0;
            for (int i = 0; i < size && i < URCHINS; i++) {
                facts |= (set >> i & 1) == 1 ? knows[i] : 0;
            }
            return facts;
        }

        int lastSeen() {
            int last = 0;
            for (int i = 0; i < seen.size; i++) {
                last = Math.max(last, seen.cell(i, 1));
            }
            return last;
        }

        /** Whether it is now as was told of those rows that are for n tides. */
        boolean isAsSeen(Table told, int n) {
            for (int i = 0; i < told.size; i++) {
                int urchin = told.cell(i, 0);
                if (told.cell(i, 1) == n && has(urchin)
                        && (knows[urchin] >> told.cell(i, 2) & 1) != told.cell(i, 3)) {
                    return false;
                }
            }
            return true;
        }

        int lessonNow() {
            int k = tide % LESSONS;
            return k >= 0 ? lessons[k] : NO_FACT;
        }

        /** A tide goes, with a fact taught in it. What the one before knew is kept aside: it has its new facts already. */
        void goTide(Heeds heeds, Ledge ledge, int taught) {
            int before = 0;
            for (int i = 0; i < size && i < URCHINS; i++) {
                int knew = knows[i];
                if (isOut(i)) {
                    before = 0;
                } else {
                    int behind = has(i + 1) && !isOut(i + 1) ? knows[i + 1] : 0;
                    int heed = heeds.setsOf(this, ledge, i);
                    int facts = knew & heed;
                    facts |= 1 << taught & heed >> FACTS & ALL_FACTS;
                    facts |= (before | behind) & heed >> 2 * FACTS;
                    knows[i] = least(facts, ledge.keep);
                    before = knew;
                }
            }
            tide++;
        }

        private static int least(int facts, int keep) {
            int left = facts;
            int many = Integer.bitCount(facts);
            for (int fact = FACTS - 1; fact >= 0 && many > keep; fact--) {
                if ((left >> fact & 1) == 1) {
                    left &= ~(1 << fact);
                    many--;
                }
            }
            return left;
        }
    }

    /** Rows of numbers that were told by hand, four in each. */
    private static final class Table {
        private static final int WIDTH = 4;

        private final int[] cells = new int[HAND_ROWS * WIDTH];
        private final int limit;
        private int size;

        Table(int limit) {
            this.limit = Math.min(limit, HAND_ROWS);
        }

        int empty() {
            size = 0;
            return 0;
        }

        int add(int first, int second, int third, int fourth) {
            if (size < 0 || size >= limit) {
                return FULL;
            }
            int at = size * WIDTH;
            cells[at] = first;
            cells[at + 1] = second;
            cells[at + 2] = third;
            cells[at + 3] = fourth;
            size++;
            return size;
        }

        int cell(int row, int column) {
            boolean there = row >= 0 && row < size && column >= 0 && column < WIDTH;
            return there ? cells[row * WIDTH + column] : 0;
        }

        void takeOver(Table other) {
            System.arraycopy(other.cells, 0, cells, 0, HAND_ROWS * WIDTH);
            size = other.size;
        }
    }

    /** The clauses of a ledge; those of loud and dull as steps that stand behind what they work on. */
    private static final class Ledge {
        private static final int CLAUSES = 10;
        private static final int OPEN = 5;
        private static final int END = -1;
        private static final int KEEP_WITHOUT = 4;
        private static final int PASS_WITHOUT = 6;
        private static final int SUM_WITHOUT = 3;

        private static final String LETTERS = "pkvfct";
        private static final String SIGNS = "<=>";
        /** A step that tests is the letter's place by 300, the sign's by 100, and the number. */
        private static final int BY_LETTER = 300;
        private static final int BY_SIGN = 100;
        private static final int NOT = -1;
        private static final int AND = -2;
        private static final int OR = -3;
        private static final int LOUD = 10000;
        private static final int DULL = 20000;

        private final int[] steps = new int[TAPE];
        private int size;
        private int keep = KEEP_WITHOUT;
        private int pass = PASS_WITHOUT;

        private byte[] tape;
        private int signs;
        /** The place that is read next, and the sign there. */
        private int at;
        private int sign;
        /** The test and the number that were read last. */
        private int test;
        private int number;

        /** Becomes what the tape says: -1, or the fault. */
        int read(byte[] from, int many) {
            tape = from;
            signs = many;
            at = -1;
            size = 0;
            keep = KEEP_WITHOUT;
            pass = PASS_WITHOUT;
            advance();
            for (int n = 1; n <= CLAUSES; n++) {
                if (!readClause()) {
                    return at;
                }
                if (sign == END) {
                    return -1;
                }
                if (n == CLAUSES || !take(';')) {
                    return at;
                }
            }
            return at;
        }

        private boolean readClause() {
            int first = sign;
            if (!takeWord(wordOf(first)) || !readNumber()) {
                return false;
            }
            if (first == 'k') {
                keep = number;
                return true;
            }
            if (first == 'p') {
                pass = number;
                return true;
            }
            int step = (first == 'l' ? LOUD : DULL) + number;
            return take(' ') && readEither(0) && put(step);
        }

        /** The word that a sign begins; for a sign that begins none, any word will find the fault. */
        private static String wordOf(int first) {
            switch (first) {
                case 'k':
                    return "keep ";
                case 'p':
                    return "pass ";
                case 'l':
                    return "loud ";
                default:
                    return "dull ";
            }
        }

        private boolean readEither(int open) {
            if (!readBoth(open)) {
                return false;
            }
            for (int n = 0; n < TAPE && take('|'); n++) {
                if (!readBoth(open) || !put(OR)) {
                    return false;
                }
            }
            return true;
        }

        private boolean readBoth(int open) {
            if (!readPart(open)) {
                return false;
            }
            for (int n = 0; n < TAPE && take('&'); n++) {
                if (!readPart(open) || !put(AND)) {
                    return false;
                }
            }
            return true;
        }

        private boolean readPart(int open) {
            if (sign != '!' && sign != '(') {
                return readTest() && readNumber() && put(test + number);
            }
            if (open >= OPEN) {
                return false;
            }
            if (take('!')) {
                return readPart(open + 1) && put(NOT);
            }
            return take('(') && readEither(open + 1) && take(')');
        }

        private boolean readTest() {
            int letter = placeOf(sign, LETTERS);
            if (letter < 0) {
                return false;
            }
            advance();
            int compared = placeOf(sign, SIGNS);
            if (compared < 0) {
                return false;
            }
            advance();
            test = letter * BY_LETTER + compared * BY_SIGN;
            return true;
        }

        private static int placeOf(int sign, String among) {
            return sign == END ? -1 : among.indexOf((char) sign);
        }

        private boolean readNumber() {
            if (!isDigit(sign)) {
                return false;
            }
            number = sign - '0';
            advance();
            if (number > 0 && isDigit(sign)) {
                number = number * 10 + sign - '0';
                advance();
            }
            return true;
        }

        private static boolean isDigit(int sign) {
            return sign >= '0' && sign <= '9';
        }

        private boolean takeWord(String word) {
            for (int i = 0; i < word.length(); i++) {
                if (!take(word.charAt(i))) {
                    return false;
                }
            }
            return true;
        }

        private boolean take(int wanted) {
            if (sign != wanted) {
                return false;
            }
            advance();
            return true;
        }

        private void advance() {
            at++;
            sign = tape != null && at >= 0 && at < signs && at < tape.length ? tape[at] : END;
        }

        /** Never without room: each step has a byte of its own on the tape. */
        private boolean put(int step) {
            if (size < 0 || size >= steps.length) {
                return false;
            }
            steps[size] = step;
            size++;
            return true;
        }

        /** What is still to be joined stands in the bits of a number: at most 13 of them, two for each that is open. */
        int sum(Heeds one) {
            int sum = SUM_WITHOUT;
            int bits = 0;
            for (int i = 0; i < size && i < steps.length; i++) {
                int step = steps[i];
                if (step >= DULL) {
                    sum -= (bits & 1) * (step - DULL);
                    bits = 0;
                } else if (step >= LOUD) {
                    sum += (bits & 1) * (step - LOUD);
                    bits = 0;
                } else if (step >= 0) {
                    bits = bits << 1 | (holds(step, one) ? 1 : 0);
                } else {
                    bits = joined(step, bits);
                }
            }
            return sum;
        }

        private static int joined(int step, int bits) {
            if (step == NOT) {
                return bits ^ 1;
            }
            int below = bits >> 1;
            int last = step == AND ? bits & below : bits | below;
            return below & ~1 | last & 1;
        }

        private static boolean holds(int step, Heeds one) {
            int than = step % BY_SIGN;
            int value;
            switch (step / BY_LETTER) {
                case 0:
                    value = one.p;
                    break;
                case 1:
                    value = one.k;
                    break;
                case 2:
                    value = one.v;
                    break;
                case 3:
                    value = one.f;
                    break;
                case 4:
                    value = one.c;
                    break;
                default:
                    value = one.t;
                    break;
            }
            int compared = step / BY_SIGN % 3;
            return compared == 0 ? value < than : compared == 1 ? value == than : value > than;
        }
    }

    /** How one urchin heeds one fact; for the tides to come, how it heeds all facts. */
    private static final class Heeds {
        private static final int COUNTS = FACTS + 1;
        private static final int PHASES = 10;
        private static final int UNKNOWN = -1;

        private final Urchin plain = new Urchin();
        private final Urchin[] kinds = {plain, new Keeper(), new Infant(), new Grey(),
            new Monitor(), new Pupil(), new Told()};
        /** By urchin, how many facts it knows, and tide modulo 10: heed can't tell more apart within a call. */
        private final int[] sets = new int[URCHINS * COUNTS * PHASES];

        private int p;
        private int k;
        private int v;
        private int f;
        private int c;
        private int t;
        private int row;
        private boolean knows;

        Urchin kindOf(int kind) {
            Urchin found = kind >= 0 && kind < kinds.length ? kinds[kind] : plain;
            return found == null ? plain : found;
        }

        /** To be called ahead of tides, as all but tide and facts may have changed since the last ones. */
        void forget() {
            Arrays.fill(sets, UNKNOWN);
        }

        /** Which facts one heeds at 0 or more; eight bits up, above 0; eight more up, at pass or more. */
        int setsOf(School school, Ledge ledge, int i) {
            if (!school.has(i)) {
                return 0;
            }
            int many = Integer.bitCount(school.knows[i]);
            int at = (i * COUNTS + many) * PHASES + school.tide % PHASES;
            if (at < 0 || at >= sets.length) {
                return 0;
            }
            if (sets[at] == UNKNOWN) {
                sets[at] = weigh(school, ledge, i);
            }
            return sets[at];
        }

        /**
         * Weighs each fact as one that isn't known: a monitor's twice changes no sign, and a known fact that is
         * heeded at pass or more, which is never below 0, is kept anyway.
         */
        private int weigh(School school, Ledge ledge, int i) {
            int found = 0;
            for (int fact = 0; fact < FACTS; fact++) {
                look(school, i, fact);
                knows = false;
                int heed = kindOf(k).heed(ledge.sum(this), this);
                if (heed >= 0) {
                    found |= 1 << fact;
                }
                if (heed > 0) {
                    found |= 1 << FACTS + fact;
                }
                if (heed >= ledge.pass) {
                    found |= 1 << 2 * FACTS + fact;
                }
            }
            return found;
        }

        int heedOf(School school, Ledge ledge, int i, int fact) {
            look(school, i, fact);
            return kindOf(k).heed(ledge.sum(this), this);
        }

        private void look(School school, int i, int fact) {
            if (!school.has(i)) {
                return;
            }
            p = i;
            k = school.kind[i];
            v = school.v[i];
            f = fact;
            c = Integer.bitCount(school.knows[i]);
            t = school.tide % PHASES;
            row = school.rows[i * LESSONS + fact % LESSONS];
            knows = (school.knows[i] >> fact & 1) == 1;
        }
    }

    /** A kind: how it heeds, and its bodies. It holds the trace of its latest act. */
    private static class Urchin {
        private final int[] bodies = new int[TRACED];
        private int ran;
        int i;
        int v;

        final void wake(int number, int itsV) {
            i = number;
            v = itsV;
            ran = 0;
        }

        final void begin(int body) {
            if (ran >= 0 && ran < bodies.length) {
                bodies[ran] = body;
            }
            ran++;
        }

        final int bodyAt(int at) {
            return at >= 0 && at < ran && at < bodies.length ? bodies[at] : NONE;
        }

        int heed(int sum, Heeds one) {
            return sum;
        }

        int leans(int x) {
            begin(1);
            return x + i;
        }

        int says(int x) {
            begin(2);
            return leans(x) - v;
        }

        int bristles(int x) {
            begin(3);
            return says(x) * 2;
        }
    }

    private static class Keeper extends Urchin {
        int heed(int sum, Heeds one) {
            return sum + one.v;
        }

        int leans(int x) {
            begin(11);
            return super.leans(x * 3);
        }
    }

    private static class Infant extends Urchin {
        int heed(int sum, Heeds one) {
            return sum / 2;
        }

        int says(int x) {
            begin(21);
            return -super.says(x);
        }
    }

    private static class Grey extends Urchin {
        int heed(int sum, Heeds one) {
            return sum - one.c;
        }

        int bristles(int x) {
            begin(31);
            return super.bristles(x) ^ 7;
        }
    }

    private static final class Monitor extends Keeper {
        int heed(int sum, Heeds one) {
            int once = super.heed(sum, one);
            return one.knows ? once * 2 : once;
        }

        int bristles(int x) {
            begin(41);
            return super.bristles(x - 1) + leans(2);
        }
    }

    private static final class Pupil extends Infant {
        int heed(int sum, Heeds one) {
            return super.heed(sum, one) + one.v;
        }

        int leans(int x) {
            begin(51);
            return super.leans(x) ^ i;
        }
    }

    private static final class Told extends Grey {
        int heed(int sum, Heeds one) {
            return super.heed(sum, one) + one.row - 4;
        }

        int says(int x) {
            begin(61);
            return super.says(x) + v;
        }
    }
}
