/** What the document says of all calls: constants, facts, refusals, how many calls an object is used for. */
final class RefusalBoundaries extends Boundaries {
    private static final String REFUSALS = "REFUSALS, of several the first one told: NONE there is no such URCHIN, KIND, "
        + "FACT, what, part, k, i; BAD a number is not as told; STATE as told; FULL. They change nothing.";

    /** A call that is refused. */
    private interface Call {
        long ask(UrchinSchool x);
    }

    static void run() {
        constants();
        facts();
        sets();
        manyCalls();
        refusedLedges();
        refusedUrchins();
        refusedTides();
        refusedSeen();
        refusedPlans();
        refusedActs();
        refusedByState();
    }

    private static void constants() {
        by(1, "public static final int NONE = -1, BAD = -2, STATE = -3, FULL = -4;");
        due("NONE", UrchinSchool.NONE, -1);
        due("BAD", UrchinSchool.BAD, -2);
        due("STATE", UrchinSchool.STATE, -3);
        due("FULL", UrchinSchool.FULL, -4);
        by(1, "The constants: `NO = Long.MIN_VALUE`: There is no such number.");
        due("NO", UrchinSchool.NO, Long.MIN_VALUE);
    }

    private static void facts() {
        by(9, "FACTS are 0 .. 7, sets of them as bits (0 .. 255).");
        for (int fact : new int[] {-1, 0, 7, 8}) {
            boolean is = fact == 0 || fact == 7;
            UrchinSchool x = plain(1);
            due("heed of " + fact, x.of(0, 10 + fact), is ? 3 : NO_HEED);
            due("lasts of " + fact, x.lasts(fact), is ? 0 : NONE);
            due("tell of " + fact, x.tell(fact), is ? 0 : NONE);
            due("seen " + fact, x.see(0, 0, fact, true), is ? 1 : NONE);
            due("odds of " + fact, x.odds(fact, 0, 1), is ? 1 : NO);
            due("planned " + fact, x.plan(3, fact), is ? 1 : NONE);
            due("lesson " + fact, x.lesson(0, fact), is || fact == -1 ? NOTHING : NONE);
        }
    }

    private static void sets() {
        by(7, "sets of them as bits (0 .. 255).");
        UrchinSchool x = plain(1);
        due("the least set", x.learn(0, 0), 0);
        due("the greatest set", x.learn(0, 255), 0);
        due("less than any", x.learn(0, -1), BAD);
        due("more than any", x.learn(0, 256), BAD);
        due("the least set in a book", x.book(0, 0), 1);
        due("the greatest set in a book", x.book(0, 255), 2);
        due("less than any in a book", x.book(0, -1), BAD);
        due("more than any in a book", x.book(0, 256), BAD);
        for (int fact = 0; fact < 8; fact++) {
            x.lesson(0, fact);
            x.learn(0, 0);
            due("fact " + fact + " as a bit", x.on(1, 0), 1 << fact);
        }
    }

    private static void manyCalls() {
        by(1, "An object is used for at most 512 calls after it has been made; what later calls answer is free.");
        UrchinSchool x = new UrchinSchool();
        due("the first", x.urchin(0, 0), 0);
        for (int call = 2; call < 512; call += 2) {
            due("call " + call, x.learn(0, call % 256), call == 2 ? 0 : (call - 2) % 256);
            due("call " + (call + 1), x.pass(0), 0);
        }
        due("the last", x.of(0, 2), 510 % 256);
        for (int call = 0; call < 600; call++) {
            x.pass(60);
            x.feed(call % 128);
            x.ledge();
        }
    }

    /** In a school that is full, and in one that isn't: the call answers so, and nothing is otherwise. */
    private static void refused(String call, long want, Call made) {
        UrchinSchool x = full();
        x.image();
        x.act(5, 2, 1);
        String was = shown(x);
        due(call, made.ask(x), want);
        same(call + " changes nothing", shown(x), was);
    }

    private static void alsoWithRoom(String call, long want, Call made) {
        refused(call, want, made);
        UrchinSchool x = lively();
        String was = shown(x);
        due(call, made.ask(x), want);
        same(call + " changes nothing", shown(x), was);
        type(x, "p 1;pass 2");
        due(call + " leaves the tape", x.ledge() * 100 + x.told(1) * 10 + x.told(2), 212);
        due(call + " leaves the image", x.undo(), 5);
    }

    private static void refusedLedges() {
        by(2, REFUSALS);
        alsoWithRoom("feed(-1)", BAD, x -> x.feed(-1));
        alsoWithRoom("feed(128)", BAD, x -> x.feed(128));
        refused("feed(0)", FULL, x -> x.feed(0));
        by(3, REFUSALS);
        refused("ledge()", FULL, x -> x.ledge());
        by(10, REFUSALS);
        alsoWithRoom("told(7)", NONE, x -> x.told(7));
        alsoWithRoom("told(14)", NONE, x -> x.told(14));
        by(9, REFUSALS);
        alsoWithRoom("lesson(4, -2)", NONE, x -> x.lesson(4, -2));
        alsoWithRoom("lesson(-1, 0)", NONE, x -> x.lesson(-1, 0));
        alsoWithRoom("lesson(0, 8)", NONE, x -> x.lesson(0, 8));
    }

    private static void refusedUrchins() {
        by(4, REFUSALS);
        alsoWithRoom("urchin(7, 10)", NONE, x -> x.urchin(7, 10));
        alsoWithRoom("urchin(-1, 0)", NONE, x -> x.urchin(-1, 0));
        alsoWithRoom("urchin(0, 10)", BAD, x -> x.urchin(0, 10));
        alsoWithRoom("urchin(6, -1)", BAD, x -> x.urchin(6, -1));
        refused("urchin(6, 0)", FULL, x -> x.urchin(6, 0));
        by(5, REFUSALS);
        alsoWithRoom("of(6, 18)", NO_HEED, x -> x.of(6, 18));
        alsoWithRoom("of(-1, 2)", NO_HEED, x -> x.of(-1, 2));
        alsoWithRoom("of(0, 4)", NO_HEED, x -> x.of(0, 4));
        by(6, REFUSALS);
        alsoWithRoom("row(6, 0, 1)", NONE, x -> x.row(6, 0, 1));
        alsoWithRoom("row(4, 4, 10)", NONE, x -> x.row(4, 4, 10));
        alsoWithRoom("row(1, 4, 10)", NONE, x -> x.row(1, 4, 10));
        alsoWithRoom("row(4, 0, 10)", BAD, x -> x.row(4, 0, 10));
        alsoWithRoom("row(1, 0, -1)", BAD, x -> x.row(1, 0, -1));
        alsoWithRoom("row(4, 0, 0)", STATE, x -> x.row(4, 0, 0));
        by(7, REFUSALS);
        alsoWithRoom("learn(6, 256)", NONE, x -> x.learn(6, 256));
        alsoWithRoom("learn(-1, 1)", NONE, x -> x.learn(-1, 1));
        alsoWithRoom("learn(0, 256)", BAD, x -> x.learn(0, 256));
        alsoWithRoom("learn(0, -1)", BAD, x -> x.learn(0, -1));
        by(8, REFUSALS);
        alsoWithRoom("beach(6, true)", NONE, x -> x.beach(6, true));
        alsoWithRoom("beach(-1, true)", NONE, x -> x.beach(-1, true));
        alsoWithRoom("beach(35, false)", NONE, x -> x.beach(35, false));
    }

    private static void refusedTides() {
        by(11, REFUSALS);
        alsoWithRoom("pass(61)", BAD, x -> x.pass(61));
        alsoWithRoom("pass(-1)", BAD, x -> x.pass(-1));
        by(12, REFUSALS);
        alsoWithRoom("on(61, 16)", NONE, x -> x.on(61, 16));
        alsoWithRoom("on(0, 2)", NONE, x -> x.on(0, 2));
        alsoWithRoom("on(61, 10)", BAD, x -> x.on(61, 10));
        alsoWithRoom("on(-1, 0)", BAD, x -> x.on(-1, 0));
        by(13, REFUSALS);
        alsoWithRoom("lasts(8)", NONE, x -> x.lasts(8));
        by(14, REFUSALS);
        alsoWithRoom("teach(4, 3)", NONE, x -> x.teach(4, 3));
        alsoWithRoom("teach(0, -2)", NONE, x -> x.teach(0, -2));
        alsoWithRoom("teach(4, -1)", BAD, x -> x.teach(4, -1));
        alsoWithRoom("teach(0, 2)", BAD, x -> x.teach(0, 2));
        by(15, REFUSALS);
        alsoWithRoom("tell(8)", NONE, x -> x.tell(8));
    }

    private static void refusedSeen() {
        by(16, REFUSALS);
        alsoWithRoom("see(6, 13, 8, true)", NONE, x -> x.see(6, 13, 8, true));
        alsoWithRoom("see(-2, 0, 0, true)", NONE, x -> x.see(-2, 0, 0, true));
        alsoWithRoom("see(0, 13, 8, true)", NONE, x -> x.see(0, 13, 8, true));
        alsoWithRoom("see(0, 13, 0, true)", BAD, x -> x.see(0, 13, 0, true));
        refused("see(0, 0, 0, true)", FULL, x -> x.see(0, 0, 0, true));
        by(17, REFUSALS);
        alsoWithRoom("knew(6, 2)", NONE, x -> x.knew(6, 2));
        alsoWithRoom("knew(0, 2)", NONE, x -> x.knew(0, 2));
        by(18, REFUSALS);
        alsoWithRoom("firm(6, 2)", NONE, x -> x.firm(6, 2));
        alsoWithRoom("firm(0, -1)", NONE, x -> x.firm(0, -1));
        by(19, REFUSALS);
        alsoWithRoom("odds(8, 61, 2)", NO, x -> x.odds(8, 61, 2));
        alsoWithRoom("odds(0, 61, 0)", NO, x -> x.odds(0, 61, 0));
        by(20, REFUSALS);
        alsoWithRoom("mean(2)", NO, x -> x.mean(2));
    }

    private static void refusedPlans() {
        by(21, REFUSALS);
        alsoWithRoom("plan(4, 0)", NONE, x -> x.plan(4, 0));
        alsoWithRoom("plan(1, 6)", NONE, x -> x.plan(1, 6));
        alsoWithRoom("plan(3, 60)", NONE, x -> x.plan(3, 60));
        alsoWithRoom("plan(3, 8)", NONE, x -> x.plan(3, 8));
        refused("plan(0, 0)", FULL, x -> x.plan(0, 0));
        refused("plan(3, 57)", FULL, x -> x.plan(3, 57));
        by(22, REFUSALS);
        alsoWithRoom("done(2)", NONE, x -> x.done(2));
        by(23, REFUSALS);
        alsoWithRoom("book(6, 256)", NONE, x -> x.book(6, 256));
        alsoWithRoom("book(-2, 0)", NONE, x -> x.book(-2, 0));
        alsoWithRoom("book(0, 256)", BAD, x -> x.book(0, 256));
        refused("book(0, 0)", FULL, x -> x.book(0, 0));
    }

    private static void refusedActs() {
        by(25, "They change nothing.");
        UrchinSchool x = full();
        String was = shown(x);
        due("act(6, 0, 1)", x.act(6, 0, 1), 0);
        due("act(0, 3, 1)", x.act(0, 3, 1), 0);
        same("but the trace, nothing is changed", shown(x), was);
        by(26, REFUSALS);
        alsoWithRoom("trace(7)", NONE, y -> y.trace(7));
        alsoWithRoom("trace(-1)", NONE, y -> y.trace(-1));
        by(27, REFUSALS);
        alsoWithRoom("as(6, 7)", NONE, y -> y.as(6, 7));
        alsoWithRoom("as(0, 7)", NONE, y -> y.as(0, 7));
        alsoWithRoom("as(0, 2)", -6, y -> y.as(0, 2));
        by(30, REFUSALS);
        alsoWithRoom("count(7)", NONE, y -> y.count(7));
    }

    private static void refusedByState() {
        by(11, "STATE as told;");
        UrchinSchool x = with(4, 3, 6, 4);
        x.learn(0, 0xff);
        until(x, 9990);
        x.learn(0, 0xff);
        String was = shown(x);
        due("bad ahead of state", x.pass(61), BAD);
        due("10 from 9990", x.pass(10), STATE);
        same("no tide of them goes", shown(x), was);
        due("9 from 9990", x.pass(9), 9999);
        by(29, "STATE as told;");
        UrchinSchool y = full();
        was = shown(y);
        due("no image", y.undo(), STATE);
        same("nothing is changed", shown(y), was);
    }
}
