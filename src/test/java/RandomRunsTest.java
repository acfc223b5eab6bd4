import java.util.Random;

/** Runs of random calls, each asked of the class and of PlainSchool; seeds are fixed, so runs are always the same. */
public final class RandomRunsTest {
    private static final int RUNS = 500;
    /** No group of calls begins behind these, so that none is the object's 513th: the largest makes twelve. */
    private static final int CALLS = 500;

    private final Random random;
    private final int run;
    private final UrchinSchool x = new UrchinSchool();
    private final PlainSchool y = new PlainSchool();
    private int call = 0;
    private final StringBuilder story = new StringBuilder();

    private RandomRunsTest(int run) {
        this.run = run;
        this.random = new Random(run * 7919L + 13);
    }

    public static void main(String[] args) {
        int runs = args.length > 1 ? Integer.parseInt(args[1]) : RUNS;
        for (int run = 0; run < runs && !Check.anyWrong(); run++) {
            new RandomRunsTest(run).go();
        }
        Check.end("RandomRunsTest");
    }

    private void due(String name, long got, long want) {
        call++;
        story.append(name).append(" = ").append(got).append('\n');
        Check.due("run " + run + ", call " + call + ": " + name, got, want);
        if (got != want) {
            System.out.println(story);
        }
    }

    private void go() {
        int urchins = run % 5 == 0 ? random.nextInt(7) : 2 + random.nextInt(5);
        for (int i = 0; i < urchins; i++) {
            urchin(random.nextInt(7), random.nextInt(10));
        }
        if (run % 4 != 0) {
            text(new Ledges(random).ledge());
        }
        while (call < CALLS && !Check.anyWrong()) {
            any();
        }
    }

    private int some(int to) {
        return random.nextInt(40) == 0 ? odd() : random.nextInt(to);
    }

    private int odd() {
        int[] odd = {-1, -2, 6, 7, 8, 9, 10, 12, 13, 14, 16, 18, 60, 61, 100, 255, 256, -10, 1000,
            Integer.MIN_VALUE, Integer.MAX_VALUE, Integer.MIN_VALUE + 9};
        return odd[random.nextInt(odd.length)];
    }

    private int one() {
        int many = Math.max(1, y.now.ones.size());
        return some(random.nextInt(12) == 0 ? 7 : many);
    }

    private void urchin(int kind, int v) {
        due("urchin(" + kind + ", " + v + ")", x.urchin(kind, v), y.urchin(kind, v));
    }

    private void text(String text) {
        for (int i = 0; i < text.length() && call < CALLS - 1; i++) {
            feed(text.charAt(i));
        }
        ledge();
    }

    private void feed(int sign) {
        due("feed(" + sign + ")", x.feed(sign), y.feed(sign));
    }

    private void ledge() {
        due("ledge()", x.ledge(), y.ledge());
        due("told(1)", x.told(1), y.told(1));
        due("told(2)", x.told(2), y.told(2));
    }

    private void any() {
        int kind = random.nextInt(100);
        if (kind < 30) {
            change();
        } else if (kind < 45) {
            hand();
        } else if (kind < 97) {
            ask();
        } else if (kind < 99) {
            rare();
        } else if (random.nextInt(3) == 0) {
            String text = new Ledges(random).any();
            text(text);
        }
    }

    private void change() {
        int p = one();
        switch (random.nextInt(9)) {
            case 0: {
                int k = some(4);
                int n = some(10);
                due("row(" + p + ", " + k + ", " + n + ")", x.row(p, k, n), y.row(p, k, n));
                break;
            }
            case 1:
            case 2:
            case 3: {
                int facts = some(256);
                due("learn(" + p + ", " + facts + ")", x.learn(p, facts), y.learn(p, facts));
                break;
            }
            case 4: {
                boolean is = random.nextInt(3) == 0;
                due("beach(" + p + ", " + is + ")", x.beach(p, is), y.beach(p, is));
                break;
            }
            case 5:
            case 6: {
                int k = some(4);
                int fact = some(9) - 1;
                due("lesson(" + k + ", " + fact + ")", x.lesson(k, fact), y.lesson(k, fact));
                break;
            }
            default: {
                int n = random.nextInt(6) == 0 ? some(61) : some(4);
                due("pass(" + n + ")", x.pass(n), y.pass(n));
                break;
            }
        }
    }

    private void hand() {
        int p = one();
        switch (random.nextInt(3)) {
            case 0: {
                int n = some(13);
                int f = some(8);
                boolean knows = random.nextBoolean();
                p = random.nextInt(6) == 0 ? -1 : p;
                due("see(" + p + ", " + n + ", " + f + ", " + knows + ")", x.see(p, n, f, knows), y.see(p, n, f, knows));
                break;
            }
            case 1: {
                int what = random.nextInt(10) == 0 ? -1 : some(4);
                int n = what == 3 ? one() * 10 + some(8) : one();
                due("plan(" + what + ", " + n + ")", x.plan(what, n), y.plan(what, n));
                break;
            }
            default: {
                int facts = y.has(p) && random.nextInt(4) > 0 ? y.now.ones.get(p).set() : some(256);
                p = random.nextInt(15) == 0 ? -1 : p;
                due("book(" + p + ", " + facts + ")", x.book(p, facts), y.book(p, facts));
                break;
            }
        }
    }

    private void ask() {
        int p = one();
        int f = some(8);
        int n = random.nextInt(3) == 0 ? some(61) : some(8);
        int half = some(2);
        switch (random.nextInt(18)) {
            case 0: due("of(" + p + ", " + half + ")", x.of(p, half), y.of(p, half)); break;
            case 1: due("of(" + p + ", 2)", x.of(p, 2), y.of(p, 2)); break;
            case 2: due("of(" + p + ", 3)", x.of(p, 3), y.of(p, 3)); break;
            case 3: due("of(" + p + ", 10 + " + f + ")", x.of(p, 10 + f), y.of(p, 10 + f)); break;
            case 4: {
                int what = random.nextInt(3) == 0 ? 10 + some(4) : some(7);
                due("told(" + what + ")", x.told(what), y.told(what));
                break;
            }
            case 5: due("on(" + n + ", " + half + ")", x.on(n, half), y.on(n, half)); break;
            case 6: due("on(" + n + ", 10 + " + p + ")", x.on(n, 10 + p), y.on(n, 10 + p)); break;
            case 7: due("lasts(" + f + ")", x.lasts(f), y.lasts(f)); break;
            case 8: {
                int k = some(4) - 1;
                int tides = random.nextInt(12) == 0 ? 3 : some(3);
                due("teach(" + tides + ", " + k + ")", x.teach(tides, k), y.teach(tides, k));
                break;
            }
            case 9: due("tell(" + f + ")", x.tell(f), y.tell(f)); break;
            case 10: due("firm(" + p + ", " + half + ")", x.firm(p, half), y.firm(p, half)); break;
            case 11: due("odds(" + f + ", " + n + ", " + half + ")", x.odds(f, n, half), y.odds(f, n, half)); break;
            case 12: due("mean(" + half + ")", x.mean(half), y.mean(half)); break;
            case 13: due("done(" + half + ")", x.done(half), y.done(half)); break;
            case 14: due("looked()", x.looked(), y.looked()); break;
            case 15: act(p); break;
            case 16: {
                int k = some(7);
                due("as(" + p + ", " + k + ")", x.as(p, k), y.as(p, k));
                break;
            }
            default: {
                int what = some(8);
                due("count(" + what + ")", x.count(what), y.count(what));
                break;
            }
        }
    }

    private void act(int p) {
        int act = some(3);
        int with = random.nextInt(3) == 0 ? random.nextInt() : random.nextInt(20) - 5;
        due("act(" + p + ", " + act + ", " + with + ")", x.act(p, act, with), y.act(p, act, with));
        due("count(6)", x.count(6), y.count(6));
        for (int i = -1; i < 9; i++) {
            due("trace(" + i + ")", x.trace(i), y.trace(i));
        }
    }

    private void rare() {
        int p = one();
        int half = some(2);
        switch (random.nextInt(5)) {
            case 0: due("image()", x.image(), y.image()); break;
            case 1: due("undo()", x.undo(), y.undo()); break;
            case 2: urchin(some(7), some(10)); break;
            case 3: due("knew(" + p + ", " + half + ")", x.knew(p, half), y.knew(p, half)); break;
            default: feed(some(128)); break;
        }
    }
}
