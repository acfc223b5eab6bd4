import java.util.ArrayList;
import java.util.HashMap;
import java.util.List;
import java.util.Map;

/**
 * The document once more, written as plainly as can be and in another way than the class: texts are looked at byte
 * by byte and split where they are joined, every heed is weighed anew, what is asked goes on in a whole copy.
 */
final class PlainSchool {
    static final long NO = Long.MIN_VALUE;

    static final class One {
        int kind;
        int v;
        boolean[] knows = new boolean[8];
        boolean out;
        int[] row = new int[4];

        One copy() {
            One other = new One();
            other.kind = kind;
            other.v = v;
            other.knows = knows.clone();
            other.out = out;
            other.row = row.clone();
            return other;
        }

        int set() {
            int bits = 0;
            for (int f = 0; f < 8; f++) {
                bits += knows[f] ? 1 << f : 0;
            }
            return bits;
        }

        void set(int bits) {
            for (int f = 0; f < 8; f++) {
                knows[f] = (bits & 1 << f) != 0;
            }
        }

        int many() {
            int n = 0;
            for (boolean k : knows) {
                n += k ? 1 : 0;
            }
            return n;
        }
    }

    static final class All {
        List<One> ones = new ArrayList<>();
        int[] lessons = {-5, -5, -5, -5};
        int tide = 0;
        String tape = "";
        List<String> ledges = new ArrayList<>();
        List<int[]> seen = new ArrayList<>();
        List<int[]> plan = new ArrayList<>();
        List<int[]> book = new ArrayList<>();

        All copy() {
            All other = new All();
            for (One one : ones) {
                other.ones.add(one.copy());
            }
            other.lessons = lessons.clone();
            other.tide = tide;
            other.tape = tape;
            other.ledges.addAll(ledges);
            other.seen.addAll(seen);
            other.plan.addAll(plan);
            other.book.addAll(book);
            return other;
        }

        String text() {
            return ledges.isEmpty() ? "" : ledges.get(ledges.size() - 1);
        }

        int last(String word, int without) {
            int n = without;
            for (String clause : text().split(";")) {
                if (clause.startsWith(word)) {
                    n = Integer.parseInt(clause.split(" ")[1]);
                }
            }
            return n;
        }

        int keep() {
            return last("keep", 4);
        }

        int passAt() {
            return last("pass", 6);
        }

        int sum(int p, int f) {
            int sum = 3;
            for (String clause : split(text(), ';')) {
                String[] part = parts(clause);
                if (part[0].equals("loud") && holds(part[2], p, f)) {
                    sum += Integer.parseInt(part[1]);
                }
                if (part[0].equals("dull") && holds(part[2], p, f)) {
                    sum -= Integer.parseInt(part[1]);
                }
            }
            return sum;
        }

        boolean holds(String e, int p, int f) {
            List<String> parts = split(e, '|');
            if (parts.size() > 1) {
                for (String part : parts) {
                    if (holds(part, p, f)) {
                        return true;
                    }
                }
                return false;
            }
            parts = split(e, '&');
            if (parts.size() > 1) {
                for (String part : parts) {
                    if (!holds(part, p, f)) {
                        return false;
                    }
                }
                return true;
            }
            if (e.charAt(0) == '!') {
                return !holds(e.substring(1), p, f);
            }
            if (e.charAt(0) == '(') {
                return holds(e.substring(1, e.length() - 1), p, f);
            }
            One one = ones.get(p);
            int value;
            switch (e.charAt(0)) {
                case 'p': value = p; break;
                case 'k': value = one.kind; break;
                case 'v': value = one.v; break;
                case 'f': value = f; break;
                case 'c': value = one.many(); break;
                case 't': value = tide % 10; break;
                default: throw new IllegalStateException(e);
            }
            int n = Integer.parseInt(e.substring(2));
            switch (e.charAt(1)) {
                case '<': return value < n;
                case '=': return value == n;
                case '>': return value > n;
                default: throw new IllegalStateException(e);
            }
        }

        private static final Map<String, List<String>> BY_OR = new HashMap<>();
        private static final Map<String, List<String>> BY_AND = new HashMap<>();
        private static final Map<String, List<String>> BY_CLAUSES = new HashMap<>();
        private static final Map<String, String[]> BY_PART = new HashMap<>();

        static List<String> split(String e, char at) {
            return (at == '|' ? BY_OR : at == '&' ? BY_AND : BY_CLAUSES).computeIfAbsent(e, text -> splitAnew(text, at));
        }

        static String[] parts(String clause) {
            return BY_PART.computeIfAbsent(clause, text -> text.split(" "));
        }

        static List<String> splitAnew(String e, char at) {
            List<String> parts = new ArrayList<>();
            int open = 0;
            int from = 0;
            for (int i = 0; i < e.length(); i++) {
                char c = e.charAt(i);
                open += c == '(' ? 1 : c == ')' ? -1 : 0;
                if (c == at && open == 0) {
                    parts.add(e.substring(from, i));
                    from = i + 1;
                }
            }
            parts.add(e.substring(from));
            return parts;
        }

        int heed(int p, int f) {
            One one = ones.get(p);
            int sum = sum(p, f);
            switch (one.kind) {
                case 0: return sum;
                case 1: return sum + one.v;
                case 2: return sum / 2;
                case 3: return sum - one.many();
                case 4: return one.knows[f] ? 2 * (sum + one.v) : sum + one.v;
                case 5: return sum / 2 + one.v;
                case 6: return sum - one.many() + one.row[f % 4] - 4;
                default: throw new IllegalStateException();
            }
        }

        void tide() {
            tide(lessons[tide % 4]);
        }

        void tide(int lesson) {
            List<boolean[]> fresh = new ArrayList<>();
            int pass = passAt();
            int keep = keep();
            for (int p = 0; p < ones.size(); p++) {
                One one = ones.get(p);
                boolean[] knows = one.knows.clone();
                fresh.add(knows);
                if (one.out) {
                    continue;
                }
                for (int f = 0; f < 8; f++) {
                    boolean meets = one.knows[f] || lesson == f
                            || p > 0 && ones.get(p - 1).knows[f] || p + 1 < ones.size() && ones.get(p + 1).knows[f];
                    if (!meets) {
                        continue;
                    }
                    int heed = heed(p, f);
                    boolean keeps = one.knows[f] && heed >= 0;
                    boolean taught = lesson == f && heed > 0;
                    boolean hears = false;
                    for (int q = 0; q < ones.size(); q++) {
                        if (Math.abs(q - p) == 1 && !ones.get(q).out && ones.get(q).knows[f] && heed >= pass) {
                            hears = true;
                        }
                    }
                    knows[f] = keeps || taught || hears;
                }
                int many = 0;
                for (int f = 0; f < 8; f++) {
                    if (knows[f]) {
                        many++;
                        knows[f] = many <= keep;
                    }
                }
            }
            for (int p = 0; p < ones.size(); p++) {
                ones.get(p).knows = fresh.get(p);
            }
            tide++;
        }

        All tides(int n) {
            for (int i = 0; i < n; i++) {
                tide();
            }
            return this;
        }

        int all() {
            int bits = 0;
            for (One one : ones) {
                bits |= one.out ? 0 : one.set();
            }
            return bits;
        }

        int held() {
            int n = 0;
            for (One one : ones) {
                n += one.out ? 0 : one.many();
            }
            return n;
        }

        int dry() {
            int n = 0;
            for (One one : ones) {
                n += one.out ? 0 : 1;
            }
            return n;
        }

        int lasts(int f) {
            All then = copy();
            for (int n = 0; n <= 60; n++) {
                if ((then.all() & 1 << f) == 0) {
                    return n;
                }
                then.tide();
            }
            return -5;
        }

        boolean seenIsSo() {
            for (int[] s : seen) {
                All then = copy().tides(s[1]);
                if (then.ones.get(s[0]).knows[s[2]] != (s[3] == 1)) {
                    return false;
                }
            }
            return true;
        }
    }

    All now = new All();
    All kept = null;
    List<Integer> trace = new ArrayList<>();

    boolean has(int p) {
        return p >= 0 && p < now.ones.size();
    }

    int feed(int sign) {
        if (sign < 0 || sign > 127) {
            return -2;
        }
        if (now.tape.length() == 100) {
            return -4;
        }
        now.tape += (char) sign;
        return now.tape.length();
    }

    int ledge() {
        if (now.ledges.size() == 5) {
            return -4;
        }
        String text = now.tape;
        now.tape = "";
        int fault = fault(text);
        if (fault >= 0) {
            return -10 - fault;
        }
        now.ledges.add(text);
        return now.ledges.size() - 1;
    }

    /** -1, or the place of the fault: a machine that goes from sign to sign, with a text of what is open. */
    static int fault(String text) {
        String state = "clause";
        String open = "";
        boolean inTest = false;
        boolean hasE = false;
        int clauses = 0;
        String word = "";
        for (int i = 0; i <= text.length(); i++) {
            boolean end = i == text.length();
            char c = end ? 0 : text.charAt(i);
            if (state.equals("second")) {
                if (!end && c >= '0' && c <= '9') {
                    state = "number";
                    continue;
                }
                state = "number";
            }
            if (state.equals("number")) {
                state = inTest ? "behind" : hasE ? "blank" : "clauseEnd";
                if (inTest) {
                    open = open.replaceAll("!*$", "");
                }
            }
            if (end) {
                boolean over = state.equals("clauseEnd") || state.equals("behind") && open.isEmpty();
                return over ? -1 : i;
            }
            switch (state) {
                case "clause":
                    word = "";
                    for (String w : new String[] {"keep ", "pass ", "loud ", "dull "}) {
                        if (w.charAt(0) == c) {
                            word = w.substring(1);
                        }
                    }
                    if (word.isEmpty()) {
                        return i;
                    }
                    clauses++;
                    hasE = c == 'l' || c == 'd';
                    inTest = false;
                    state = "word";
                    break;
                case "word":
                    if (word.charAt(0) != c) {
                        return i;
                    }
                    word = word.substring(1);
                    state = word.isEmpty() ? "digit" : "word";
                    break;
                case "digit":
                    if (c < '0' || c > '9') {
                        return i;
                    }
                    state = c == '0' ? "number" : "second";
                    break;
                case "blank":
                    if (c != ' ') {
                        return i;
                    }
                    state = "part";
                    break;
                case "part":
                    if ((c == '!' || c == '(') && open.length() < 5) {
                        open += c;
                    } else if ("pkvfct".indexOf(c) >= 0) {
                        state = "sign";
                    } else {
                        return i;
                    }
                    break;
                case "sign":
                    if ("<=>".indexOf(c) < 0) {
                        return i;
                    }
                    inTest = true;
                    state = "digit";
                    break;
                case "behind":
                    if (c == '&' || c == '|') {
                        state = "part";
                    } else if (c == ')' && open.endsWith("(")) {
                        open = open.substring(0, open.length() - 1).replaceAll("!*$", "");
                    } else if (c == ';' && open.isEmpty() && clauses < 10) {
                        state = "clause";
                    } else {
                        return i;
                    }
                    break;
                case "clauseEnd":
                    if (c != ';' || clauses == 10) {
                        return i;
                    }
                    state = "clause";
                    break;
                default:
                    throw new IllegalStateException(state);
            }
        }
        throw new IllegalStateException(text);
    }

    int urchin(int kind, int v) {
        if (kind < 0 || kind > 6) {
            return -1;
        }
        if (v < 0 || v > 9) {
            return -2;
        }
        if (now.ones.size() == 6) {
            return -4;
        }
        One one = new One();
        one.kind = kind;
        one.v = v;
        now.ones.add(one);
        return now.ones.size() - 1;
    }

    int of(int p, int what) {
        if (!has(p)) {
            return -999999;
        }
        One one = now.ones.get(p);
        switch (what) {
            case 0: return one.kind;
            case 1: return one.v;
            case 2: return one.set();
            case 3: return one.out ? 1 : 0;
            default: return what >= 10 && what <= 17 ? now.heed(p, what - 10) : -999999;
        }
    }

    int row(int p, int k, int n) {
        if (!has(p) || k < 0 || k > 3) {
            return -1;
        }
        if (n < 0 || n > 9) {
            return -2;
        }
        One one = now.ones.get(p);
        if (one.kind != 6) {
            return -3;
        }
        int was = one.row[k];
        one.row[k] = n;
        return was;
    }

    int learn(int p, int facts) {
        if (!has(p)) {
            return -1;
        }
        if (facts < 0 || facts > 255) {
            return -2;
        }
        int was = now.ones.get(p).set();
        now.ones.get(p).set(facts);
        return was;
    }

    int beach(int p, boolean is) {
        if (!has(p)) {
            return -1;
        }
        boolean was = now.ones.get(p).out;
        now.ones.get(p).out = is;
        return was ? 1 : 0;
    }

    int lesson(int k, int fact) {
        if (k < 0 || k > 3 || fact < -1 || fact > 7) {
            return -1;
        }
        int was = now.lessons[k];
        now.lessons[k] = fact < 0 ? -5 : fact;
        return was;
    }

    int told(int what) {
        switch (what) {
            case 0: return now.tide;
            case 1: return now.keep();
            case 2: return now.passAt();
            case 3: return now.all();
            case 4: return now.held();
            case 5: return out();
            case 6: return few();
            default: return what >= 10 && what <= 13 ? now.lessons[what - 10] : -1;
        }
    }

    private int out() {
        int bits = 0;
        for (int p = 0; p < now.ones.size(); p++) {
            bits += now.ones.get(p).out ? 1 << p : 0;
        }
        return bits;
    }

    private int few() {
        int best = -1;
        for (int set = 0; set < 64; set++) {
            int bits = 0;
            boolean may = true;
            for (int p = 0; p < 6; p++) {
                if ((set & 1 << p) != 0) {
                    may &= has(p) && !now.ones.get(p).out;
                    bits |= has(p) ? now.ones.get(p).set() : 0;
                }
            }
            if (may && bits == now.all() && (best < 0 || Integer.bitCount(set) < Integer.bitCount(best))) {
                best = set;
            }
        }
        return best;
    }

    int pass(int n) {
        if (n < 0 || n > 60) {
            return -2;
        }
        if (now.tide + n > 9999) {
            return -3;
        }
        now.tides(n);
        return now.tide;
    }

    int on(int n, int what) {
        if (what != 0 && what != 1 && !(what >= 10 && has(what - 10))) {
            return -1;
        }
        if (n < 0 || n > 60) {
            return -2;
        }
        All then = now.copy().tides(n);
        return what == 0 ? then.all() : what == 1 ? then.held() : then.ones.get(what - 10).set();
    }

    int lasts(int fact) {
        return fact < 0 || fact > 7 ? -1 : now.lasts(fact);
    }

    private int teachMost;
    private int[] teachRow;

    int teach(int n, int k) {
        if (k < -1 || k > 2) {
            return -1;
        }
        if (n < 1 || n > 3) {
            return -2;
        }
        teachMost = -1;
        teachRow = null;
        teachOn(now, n, new int[n], 0);
        return k < 0 ? teachMost : k < n ? teachRow[k] : -5;
    }

    private void teachOn(All from, int n, int[] row, int k) {
        if (k == n) {
            if (from.held() > teachMost) {
                teachMost = from.held();
                teachRow = row.clone();
            }
            return;
        }
        for (int f = 0; f <= 8; f++) {
            All then = from.copy();
            then.tide(f);
            row[k] = f;
            teachOn(then, n, row, k + 1);
        }
    }

    int tell(int fact) {
        if (fact < 0 || fact > 7) {
            return -1;
        }
        int best = -5;
        int most = -1;
        for (int p = 0; p < now.ones.size(); p++) {
            if (now.ones.get(p).out) {
                continue;
            }
            All then = now.copy();
            then.ones.get(p).knows[fact] = true;
            int lasts = then.lasts(fact);
            lasts = lasts == -5 ? 1000 : lasts;
            if (lasts > most) {
                most = lasts;
                best = p;
            }
        }
        return best;
    }

    int see(int p, int n, int fact, boolean knows) {
        if (p == -1) {
            now.seen.clear();
            return 0;
        }
        if (!has(p) || fact < 0 || fact > 7) {
            return -1;
        }
        if (n < 0 || n > 12) {
            return -2;
        }
        if (now.seen.size() == 5) {
            return -4;
        }
        now.seen.add(new int[] {p, n, fact, knows ? 1 : 0});
        return now.seen.size();
    }

    int knew(int p, int what) {
        if (!has(p) || what < 0 || what > 1) {
            return -1;
        }
        List<Integer> sets = new ArrayList<>();
        for (int set = 0; set < 256; set++) {
            All then = now.copy();
            then.ones.get(p).set(set);
            if (then.seenIsSo()) {
                sets.add(set);
            }
        }
        return what == 0 ? sets.size() : sets.isEmpty() ? -5 : sets.get(0);
    }

    int firm(int p, int what) {
        if (!has(p) || what < 0 || what > 1) {
            return -1;
        }
        List<Integer> vs = new ArrayList<>();
        for (int v = 0; v < 10; v++) {
            All then = now.copy();
            then.ones.get(p).v = v;
            if (then.seenIsSo()) {
                vs.add(v);
            }
        }
        return what == 0 ? vs.size() : vs.isEmpty() ? -5 : vs.get(0);
    }

    long odds(int fact, int n, int part) {
        if (fact < 0 || fact > 7 || n < 0 || n > 60 || part < 0 || part > 1) {
            return NO;
        }
        int with = 0;
        for (int p = 0; p < now.ones.size(); p++) {
            if (!now.ones.get(p).out) {
                All then = now.copy();
                then.ones.get(p).set(0);
                with += then.tides(n).all() >> fact & 1;
            }
        }
        return fraction(with, now.dry(), part);
    }

    long mean(int part) {
        return part < 0 || part > 1 ? NO : fraction(now.held(), now.dry(), part);
    }

    private static long fraction(int above, int below, int part) {
        if (below == 0) {
            return NO;
        }
        for (int d = below; d > 1; d--) {
            if (above % d == 0 && below % d == 0) {
                above /= d;
                below /= d;
            }
        }
        return part == 0 ? above : below;
    }

    int plan(int what, int n) {
        if (what == -1) {
            now.plan.clear();
            return 0;
        }
        if (what < 0 || what > 3 || (what == 1 || what == 2) && !has(n)) {
            return -1;
        }
        if (what == 3 && (n < 0 || !has(n / 10) || n % 10 > 7)) {
            return -1;
        }
        if (now.plan.size() == 8) {
            return -4;
        }
        now.plan.add(new int[] {what, n});
        return now.plan.size();
    }

    int done(int what) {
        if (what < 0 || what > 1) {
            return -1;
        }
        All then = now.copy();
        for (int[] row : now.plan) {
            switch (row[0]) {
                case 0: then.tide(); break;
                case 1: then.ones.get(row[1]).out = true; break;
                case 2: then.ones.get(row[1]).out = false; break;
                default: then.ones.get(row[1] / 10).knows[row[1] % 10] = true; break;
            }
        }
        return what == 0 ? then.all() : then.held();
    }

    int book(int p, int facts) {
        if (p == -1) {
            now.book.clear();
            return 0;
        }
        if (!has(p)) {
            return -1;
        }
        if (facts < 0 || facts > 255) {
            return -2;
        }
        if (now.book.size() == 8) {
            return -4;
        }
        now.book.add(new int[] {p, facts});
        return now.book.size();
    }

    int looked() {
        for (int i = 0; i < now.book.size(); i++) {
            if (now.ones.get(now.book.get(i)[0]).set() != now.book.get(i)[1]) {
                return i;
            }
        }
        return -5;
    }

    int act(int p, int act, int x) {
        trace.clear();
        if (!has(p) || act < 0 || act > 2) {
            return 0;
        }
        One one = now.ones.get(p);
        return body(bodyOf(one.kind, act), one.kind, p, one.v, x);
    }

    private static final int[] UP = {-1, 0, 0, 0, 1, 2, 3};

    private static int bodyOf(int kind, int act) {
        int[][] bodies = {{1, 2, 3}, {11, 0, 0}, {0, 21, 0}, {0, 0, 31}, {0, 0, 41}, {51, 0, 0}, {0, 61, 0}};
        int k = kind;
        while (bodies[k][act] == 0) {
            k = UP[k];
        }
        return bodies[k][act];
    }

    private int above(int owner, int act, int kind, int i, int v, int x) {
        return body(bodyOf(UP[owner], act), kind, i, v, x);
    }

    private int body(int body, int kind, int i, int v, int x) {
        trace.add(body);
        switch (body) {
            case 1: return x + i;
            case 2: return body(bodyOf(kind, 0), kind, i, v, x) - v;
            case 3: return body(bodyOf(kind, 1), kind, i, v, x) * 2;
            case 11: return above(1, 0, kind, i, v, x * 3);
            case 21: return -above(2, 1, kind, i, v, x);
            case 31: return above(3, 2, kind, i, v, x) ^ 7;
            case 41: {
                int first = above(4, 2, kind, i, v, x - 1);
                return first + body(bodyOf(kind, 0), kind, i, v, 2);
            }
            case 51: return above(5, 0, kind, i, v, x) ^ i;
            case 61: return above(6, 1, kind, i, v, x) + v;
            default: throw new IllegalStateException();
        }
    }

    int trace(int i) {
        return i >= 0 && i < trace.size() && i < 20 ? trace.get(i) : -1;
    }

    int as(int p, int k) {
        if (!has(p) || k < 0 || k > 6) {
            return -1;
        }
        for (int kind = now.ones.get(p).kind; kind >= 0; kind = UP[kind]) {
            if (kind == k) {
                return now.ones.get(p).v;
            }
        }
        return -6;
    }

    int image() {
        kept = now.copy();
        return now.ones.size();
    }

    int undo() {
        if (kept == null) {
            return -3;
        }
        now = kept.copy();
        return now.ones.size();
    }

    int count(int what) {
        switch (what) {
            case 0: return now.ones.size();
            case 1: return now.ledges.size();
            case 2: return now.seen.size();
            case 3: return now.plan.size();
            case 4: return now.book.size();
            case 5: return now.tape.length();
            case 6: return trace.size();
            default: return -1;
        }
    }
}
