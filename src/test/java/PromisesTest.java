/** What each promise says, by hand: ordinary calls, the edges that the document names, refusals. */
public final class PromisesTest {
    private static final int NONE = -1;
    private static final int BAD = -2;
    private static final int STATE = -3;
    private static final int FULL = -4;
    private static final int LOW = Integer.MIN_VALUE;
    private static final int HIGH = Integer.MAX_VALUE;
    private static final long NO = Long.MIN_VALUE;

    private static int promise;

    public static void main(String[] args) {
        constants();
        newObject();
        feed();
        ledgeFaults();
        ledgeOpen();
        ledgeHolds();
        ledgeTests();
        urchin();
        of();
        row();
        learn();
        beach();
        lesson();
        told();
        few();
        pass();
        passTide();
        passPlace();
        on();
        lasts();
        lastsLong();
        teach();
        tell();
        see();
        knew();
        firm();
        odds();
        mean();
        plan();
        done();
        book();
        looked();
        acts();
        trace();
        as();
        image();
        undo();
        count();
        Check.end("PromisesTest");
    }

    private static void due(String call, long got, long want) {
        Check.due("promise " + promise + ": " + call, got, want);
    }

    private static int write(UrchinSchool x, String text) {
        for (int i = 0; i < text.length(); i++) {
            x.feed(text.charAt(i));
        }
        return x.ledge();
    }

    private static UrchinSchool with(int... kindsAndVs) {
        UrchinSchool x = new UrchinSchool();
        for (int i = 0; i + 1 < kindsAndVs.length; i += 2) {
            x.urchin(kindsAndVs[i], kindsAndVs[i + 1]);
        }
        return x;
    }

    private static void constants() {
        due("NONE", UrchinSchool.NONE, -1);
        due("BAD", UrchinSchool.BAD, -2);
        due("STATE", UrchinSchool.STATE, -3);
        due("FULL", UrchinSchool.FULL, -4);
        due("NO", UrchinSchool.NO, Long.MIN_VALUE);
    }

    private static void newObject() {
        promise = 1;
        UrchinSchool x = new UrchinSchool();
        for (int what = 0; what < 7; what++) {
            due("count " + what, x.count(what), 0);
        }
        int[] first = {0, 4, 6, 0, 0, 0, 0, NONE, NONE, NONE, -5, -5, -5, -5, NONE};
        for (int what = 0; what < first.length; what++) {
            due("told " + what, x.told(what), first[what]);
        }
        due("undo", x.undo(), STATE);
        due("looked", x.looked(), -5);
        due("trace", x.trace(0), NONE);
        due("of", x.of(0, 0), -999999);
        due("tell", x.tell(0), -5);
        due("pass", x.pass(60), 60);
        due("done", x.done(0) + x.done(1), 0);
    }

    private static void feed() {
        promise = 2;
        UrchinSchool x = new UrchinSchool();
        due("below", x.feed(-1), BAD);
        due("above", x.feed(128), BAD);
        due("low", x.feed(LOW), BAD);
        due("high", x.feed(HIGH), BAD);
        due("0", x.feed(0), 1);
        due("127", x.feed(127), 2);
        for (int i = 3; i <= 100; i++) {
            due("the next", x.feed('k'), i);
        }
        due("101st", x.feed('k'), FULL);
        due("bad ahead of full", x.feed(128), BAD);
        due("signs", x.count(5), 100);
        due("the first is 0", x.ledge(), -10);
        due("empty then", x.feed('k'), 1);
    }

    private static void fault(String text, int want) {
        due("fault of " + text, write(new UrchinSchool(), text), -10 - want);
    }

    private static void right(String text) {
        due("ledge " + text, write(new UrchinSchool(), text), 0);
    }

    private static void ledgeFaults() {
        promise = 3;
        fault("", 0);
        fault("x", 0);
        fault(" keep 1", 0);
        fault("k", 1);
        fault("keep", 4);
        fault("keep ", 5);
        fault("keep  1", 5);
        fault("kept 1", 2);
        fault("keep x", 5);
        fault("keep 00", 6);
        fault("keep 01", 6);
        fault("keep 123", 7);
        fault("keep 1 ", 6);
        fault("keep 1;", 7);
        fault("keep 1;;", 7);
        fault("keep 1,pass 1", 6);
        fault("pass 1 p=1", 6);
        fault("past 1", 3);
        fault("lout 1", 3);
        fault("loud 1", 6);
        fault("loud 1;", 6);
        fault("loud 1 ", 7);
        fault("loud 1  p=1", 7);
        fault("loud 12p=1", 7);
        fault("dull 1 q=1", 7);
        fault("dull 1 p", 8);
        fault("dull 1 p!1", 8);
        fault("dull 1 p=", 9);
        fault("dull 1 p=x", 9);
        fault("dull 1 p=012", 10);
        fault("dull 1 p=123", 11);
        fault("dull 1 p=1)", 10);
        fault("dull 1 (p=1", 11);
        fault("dull 1 (p=1;", 11);
        fault("dull 1 p=1&", 11);
        fault("dull 1 p=1|", 11);
        fault("dull 1 p=1&&", 11);
        fault("dull 1 p=1 ", 10);
        fault("dull 1 ()", 8);
        fault("dull 1 p=1!", 10);
        fault("dull 1 (p=1)p", 12);
        fault("dull 1 p<=1", 9);
        fault("Dull 1 p=1", 0);
        right("keep 0");
        right("keep 99");
        right("pass 10;keep 9");
        right("loud 0 p=0");
        right("loud 99 t>99;dull 1 c<10&v=3|!k=2");
        String ten = "keep 1;keep 2;keep 3;keep 4;keep 5;keep 6;keep 7;keep 8;keep 9;keep 10";
        right(ten);
        fault(ten + ";", ten.length());
        fault(ten + ";pass 1", ten.length());
    }

    private static void ledgeOpen() {
        promise = 3;
        right("dull 1 !!!!!p=1");
        fault("dull 1 !!!!!!p=1", 12);
        right("dull 1 (((((p=1)))))");
        fault("dull 1 ((((((p=1))))))", 12);
        fault("dull 1 !(!(!!p=1))", 12);
        right("dull 1 !(!(!p=1))");
        fault("dull 1 !(!(!(p=1)))", 12);
        right("dull 1 !p=1&!p=2&!p=3&!p=4&!p=5&!p=6|!p=7");
        right("dull 1 (p=1)&(p=2)&(p=3)|(p=4)|(p=5)|(p=6)");
        right("dull 1 ((((!p=1&!p=2|!p=3))))");
        fault("dull 1 ((((!p=1&!!p=2))))", 17);
        right("dull 1 !(p=1)&!(p=1)&!!!!!p=1");
        right("dull 1 !((((p=1&p=2))))|(((((p=1)))))");
        fault("dull 1 !(((((p=1)))))", 12);
    }

    private static void ledgeHolds() {
        promise = 3;
        UrchinSchool x = new UrchinSchool();
        due("first", write(x, "keep 1;pass 2"), 0);
        due("keep", x.told(1), 1);
        due("pass", x.told(2), 2);
        due("second", write(x, "keep 7;keep 5"), 1);
        due("the last keep", x.told(1), 5);
        due("pass without", x.told(2), 6);
        due("fault", write(x, "keep 3;pass 9;"), -24);
        due("the one that held", x.told(1), 5);
        due("the one that held", x.told(2), 6);
        due("third", write(x, "pass 0;pass 10"), 2);
        due("the last pass", x.told(2), 10);
        due("keep without", x.told(1), 4);
        due("fourth", write(x, "loud 1 p=0"), 3);
        due("fifth", write(x, "keep 0"), 4);
        due("keep 0", x.told(1), 0);
        x.feed('x');
        due("full, ahead of a fault", x.ledge(), FULL);
        due("the tape stays", x.count(5), 1);
        due("the tape stays", x.feed('y'), 2);
        due("five", x.count(1), 5);
        due("the fifth holds", x.told(1), 0);
    }

    private static void heeds(UrchinSchool x, String text, int urchin, int... want) {
        due("ledge " + text, write(x, text) >= 0 ? 1 : 0, 1);
        for (int f = 0; f < want.length; f++) {
            due("heed of " + urchin + " for " + f + " by " + text, x.of(urchin, 10 + f), want[f]);
        }
    }

    private static void ledgeTests() {
        promise = 3;
        UrchinSchool x = with(0, 4, 3, 2);
        x.learn(1, 7);
        heeds(x, "loud 10 f<2;dull 20 f>5;loud 1 f=3", 0, 13, 13, 3, 4, 3, 3, -17, -17);
        heeds(x, "loud 10 f=1|f=2&p=1|f=4", 0, 3, 13, 3, 3, 13, 3, 3, 3);
        heeds(x, "loud 10 f=1|f=2&p=1|f=4", 1, 0, 10, 10, 0, 10, 0, 0, 0);
        heeds(x, "loud 10 (f=1|f=2)&!f=2;loud 5 !(f=1|f=2)&!f=3", 0, 8, 13, 3, 3, 8, 8, 8, 8);
        heeds(x, "loud 1 p=0;loud 2 k=0;loud 4 v=4;loud 8 c=0;loud 16 t=0;loud 32 f=0", 0, 66, 34);
        x = with(0, 4, 3, 2);
        x.learn(1, 7);
        x.pass(13);
        heeds(x, "loud 1 p>0;loud 2 k=3;loud 4 v=2;loud 8 c>2;loud 16 t=3;loud 32 f<2", 1, 63, 63, 31);
        heeds(x, "loud 1 t<4&t>2;dull 2 t<3|t>3", 0, 4);
        heeds(x, "loud 1 !t<4|!!t>2;loud 2 v<5;loud 4 v<4", 0, 6);
        heeds(x, "loud 1 c<1;loud 2 k<1;loud 4 p<1;loud 8 k>0", 0, 10);
    }

    private static void urchin() {
        promise = 4;
        UrchinSchool x = new UrchinSchool();
        due("kind 7", x.urchin(7, 0), NONE);
        due("kind -1, ahead of bad", x.urchin(-1, 10), NONE);
        due("v 10", x.urchin(6, 10), BAD);
        due("v -1", x.urchin(0, -1), BAD);
        for (int i = 0; i < 6; i++) {
            due("the next", x.urchin(i + 1, 9 - i), i);
        }
        due("the seventh", x.urchin(0, 0), FULL);
        due("bad ahead of full", x.urchin(0, 10), BAD);
        due("none ahead of full", x.urchin(7, 0), NONE);
        due("six", x.count(0), 6);
        for (int i = 0; i < 6; i++) {
            due("kind", x.of(i, 0), i + 1);
            due("v", x.of(i, 1), 9 - i);
            due("knows", x.of(i, 2), 0);
            due("out", x.of(i, 3), 0);
        }
    }

    private static void of() {
        promise = 5;
        UrchinSchool x = with(0, 5, 1, 5, 2, 5, 3, 5, 4, 5, 5, 5);
        int[] unknown = {3, 8, 1, 3, 8, 6};
        int[] known = {3, 8, 1, 1, 16, 6};
        for (int i = 0; i < 6; i++) {
            due("heed", x.of(i, 17), unknown[i]);
            x.learn(i, 129);
            due("heed of what it knows", x.of(i, 17), known[i]);
            due("heed of another", x.of(i, 16), i == 3 ? 1 : unknown[i]);
            due("knows", x.of(i, 2), 129);
        }
        write(x, "dull 8 p<9");
        int[] below = {-5, 0, -2, -7, 0, 3};
        for (int i = 0; i < 6; i++) {
            due("heed below 0", x.of(i, 10), below[i]);
        }
        UrchinSchool y = with(6, 5, 4, 1);
        y.learn(0, 14);
        y.learn(1, 1);
        write(y, "dull 8 p<9");
        y.row(0, 1, 9);
        due("a told one's", y.of(0, 10), -12);
        due("a told one's by its row", y.of(0, 11), -3);
        due("a told one's by its row, modulo 4", y.of(0, 15), -3);
        due("a told one's", y.of(0, 16), -12);
        due("a monitor's", y.of(1, 11), -4);
        due("a monitor's, twice", y.of(1, 10), -8);
        y.beach(0, true);
        due("of one that is out", y.of(0, 3), 1);
        due("heed of one that is out", y.of(0, 11), -3);
        int[] none = {-1, 4, 9, 18, LOW, HIGH, LOW + 9, LOW + 10};
        for (int what : none) {
            due("what " + what, y.of(0, what), -999999);
        }
        due("no urchin", y.of(2, 0), -999999);
        due("no urchin", y.of(-1, 0), -999999);
        due("no urchin", y.of(HIGH, 10), -999999);
    }

    private static void row() {
        promise = 6;
        UrchinSchool x = with(6, 4, 3, 0, 6, 1);
        for (int k = 0; k < 4; k++) {
            due("what it was", x.row(2, k, k + 6), 0);
        }
        for (int k = 0; k < 4; k++) {
            due("what it was", x.row(2, k, 0), k + 6);
            due("of another", x.row(0, k, 9), 0);
        }
        due("no urchin", x.row(3, 0, 0), NONE);
        due("no urchin", x.row(-1, 0, 0), NONE);
        due("k", x.row(0, 4, 0), NONE);
        due("k, ahead of bad and state", x.row(1, -1, 10), NONE);
        due("n, ahead of state", x.row(1, 0, 10), BAD);
        due("n", x.row(0, 0, -1), BAD);
        due("another kind", x.row(1, 0, 0), STATE);
        due("not changed", x.row(0, 0, 1), 9);
        UrchinSchool y = with(0, 0, 1, 0, 2, 0, 3, 0, 4, 0, 5, 0);
        for (int i = 0; i < 6; i++) {
            due("kind " + i, y.row(i, 3, 0), STATE);
        }
    }

    private static void learn() {
        promise = 7;
        UrchinSchool x = with(0, 0, 0, 0);
        due("what it was", x.learn(0, 255), 0);
        due("what it was", x.learn(0, 85), 255);
        due("what it was", x.learn(0, 0), 85);
        due("of another", x.learn(1, 1), 0);
        due("256", x.learn(0, 256), BAD);
        due("-1", x.learn(0, -1), BAD);
        due("no urchin, ahead of bad", x.learn(2, 256), NONE);
        due("no urchin", x.learn(-1, 0), NONE);
        due("knows", x.of(0, 2), 0);
        due("knows", x.of(1, 2), 1);
    }

    private static void beach() {
        promise = 8;
        UrchinSchool x = with(0, 0, 0, 0, 0, 0);
        x.learn(1, 15);
        due("was not", x.beach(1, true), 0);
        due("was", x.beach(1, true), 1);
        due("out", x.told(5), 2);
        x.pass(3);
        due("keeps what it knows", x.of(1, 2), 15);
        due("passes on nothing", x.told(3), 0);
        due("was", x.beach(1, false), 1);
        due("was not", x.beach(1, false), 0);
        due("no urchin", x.beach(3, true), NONE);
        due("no urchin", x.beach(-1, true), NONE);
        due("none out", x.told(5), 0);
    }

    private static void lesson() {
        promise = 9;
        UrchinSchool x = new UrchinSchool();
        for (int k = 0; k < 4; k++) {
            due("none", x.lesson(k, k + 4), -5);
        }
        for (int k = 0; k < 4; k++) {
            due("what it was", x.lesson(k, 0), k + 4);
            due("what it was", x.lesson(k, -1), 0);
            due("what it was", x.lesson(k, -1), -5);
        }
        due("k", x.lesson(4, 0), NONE);
        due("k", x.lesson(-1, 0), NONE);
        due("fact", x.lesson(0, 8), NONE);
        due("fact", x.lesson(0, -2), NONE);
        due("fact", x.lesson(0, -5), NONE);
        due("not changed", x.lesson(0, 7), -5);
    }

    private static void told() {
        promise = 10;
        UrchinSchool x = with(0, 0, 0, 0, 0, 0, 0, 0);
        x.learn(0, 3);
        x.learn(2, 6);
        x.learn(3, 128);
        x.beach(3, true);
        x.beach(1, true);
        x.lesson(1, 0);
        x.lesson(3, 7);
        due("tide", x.told(0), 0);
        due("all", x.told(3), 7);
        due("held", x.told(4), 4);
        due("out", x.told(5), 10);
        due("few", x.told(6), 5);
        due("lesson", x.told(10), -5);
        due("lesson", x.told(11), 0);
        due("lesson", x.told(13), 7);
        for (int what : new int[] {-1, 7, 8, 9, 14, LOW, HIGH}) {
            due("what " + what, x.told(what), NONE);
        }
        x.pass(5);
        due("tide", x.told(0), 5);
    }

    private static void few() {
        promise = 10;
        UrchinSchool x = with(0, 0, 0, 0, 0, 0, 0, 0);
        x.learn(0, 3);
        x.learn(1, 12);
        x.learn(2, 6);
        x.learn(3, 9);
        due("of several the least", x.told(6), 3);
        x.beach(0, true);
        due("not by one that is out", x.told(6), 12);
        x.beach(0, false);
        x.learn(3, 15);
        due("one is fewer", x.told(6), 8);
        x.learn(1, 15);
        due("the least of two", x.told(6), 2);
        for (int i = 0; i < 4; i++) {
            x.learn(i, 1 << i);
        }
        due("all four", x.told(6), 15);
        for (int i = 0; i < 4; i++) {
            x.beach(i, true);
        }
        due("none", x.told(6), 0);
        UrchinSchool y = with(0, 0, 0, 0, 0, 0, 0, 0, 0, 0, 0, 0);
        for (int i = 0; i < 6; i++) {
            y.learn(i, 1 << i + 2);
        }
        due("all six", y.told(6), 63);
    }

    private static void pass() {
        promise = 11;
        UrchinSchool x = new UrchinSchool();
        due("-1", x.pass(-1), BAD);
        due("61", x.pass(61), BAD);
        due("low", x.pass(LOW), BAD);
        due("0", x.pass(0), 0);
        for (int i = 1; i <= 166; i++) {
            due("60", x.pass(60), i * 60);
        }
        due("to 9999", x.pass(39), 9999);
        due("0 more", x.pass(0), 9999);
        due("1 more", x.pass(1), STATE);
        due("bad ahead of state", x.pass(61), BAD);
        x.urchin(0, 0);
        write(x, "loud 90 t=9;loud 10 t=0");
        x.lesson(3, 5);
        x.lesson(0, 6);
        due("heed at 9999", x.of(0, 10), 93);
        due("asked beyond 9999", x.on(1, 0), 32);
        due("asked beyond 9999", x.on(2, 0), 96);
        due("asked beyond 9999", x.teach(3, -1), 3);
        due("tide", x.told(0), 9999);
    }

    private static void passTide() {
        promise = 11;
        UrchinSchool x = with(0, 0);
        x.lesson(0, 5);
        x.lesson(2, 1);
        int[] knows = {32, 32, 34, 34, 34};
        for (int tide = 0; tide < 5; tide++) {
            due("tide", x.pass(1), tide + 1);
            due("the lesson of the tide", x.of(0, 2), knows[tide]);
        }
        UrchinSchool y = with(3, 0);
        write(y, "keep 8");
        y.lesson(0, 7);
        y.learn(0, 7);
        due("heed", y.of(0, 17), 0);
        y.pass(1);
        due("heed 0 keeps, but is not taught", y.of(0, 2), 7);
        y.learn(0, 15);
        y.pass(1);
        due("heed below 0 forgets", y.of(0, 2), 0);
        UrchinSchool z = with(2, 0);
        write(z, "dull 4 p=0");
        z.learn(0, 16);
        due("half toward 0", z.of(0, 10), 0);
        z.pass(2);
        due("kept at 0", z.of(0, 2), 16);
        write(z, "dull 5 p=0");
        due("half toward 0", z.of(0, 10), -1);
        z.pass(1);
        due("forgot", z.of(0, 2), 0);
        UrchinSchool w = with(0, 0);
        w.learn(0, 250);
        w.lesson(0, 0);
        w.pass(1);
        due("the least numbers are kept", w.of(0, 2), 27);
        write(w, "keep 0");
        w.pass(1);
        due("none is kept", w.of(0, 2), 0);
        write(w, "keep 9");
        w.learn(0, 255);
        w.pass(1);
        due("all are kept", w.of(0, 2), 255);
    }

    private static void passPlace() {
        promise = 11;
        UrchinSchool x = with(0, 0, 0, 0, 0, 0, 0, 0);
        write(x, "pass 3");
        x.learn(0, 1);
        x.learn(3, 2);
        x.pass(1);
        due("passed on once a tide", x.of(1, 2), 1);
        due("passed on once a tide", x.of(2, 2), 2);
        due("not further", x.of(0, 2), 1);
        x.pass(1);
        due("further", x.of(1, 2), 3);
        due("further", x.of(2, 2), 3);
        due("not yet", x.of(0, 2), 1);
        write(x, "pass 4");
        x.learn(0, 128);
        x.pass(3);
        due("heed below pass", x.of(1, 2), 3);
        UrchinSchool y = with(0, 0, 0, 0, 0, 0);
        write(y, "pass 4;loud 1 p=1;dull 1 t=0");
        y.learn(0, 1);
        y.learn(2, 64);
        y.pass(1);
        due("by the tide", y.of(1, 2), 0);
        y.beach(2, true);
        y.pass(1);
        due("its own heed; not from one out", y.of(1, 2), 1);
        y.pass(5);
        due("its own heed", y.of(0, 2), 1);
        due("one out keeps its own", y.of(2, 2), 64);
        UrchinSchool z = with(4, 1, 0, 0);
        write(z, "pass 7");
        z.learn(1, 3);
        z.learn(0, 4);
        z.pass(1);
        due("a monitor hears what it does not know by its heed once", z.of(0, 2), 4);
        due("heed once", z.of(0, 10), 4);
        due("heed twice", z.of(0, 12), 8);
        UrchinSchool w = with(0, 0, 0, 0);
        write(w, "keep 8;pass 0;dull 4 f<4;dull 3 f=4");
        w.learn(0, 255);
        w.pass(1);
        due("heed 0 hears at pass 0", w.of(1, 2), 240);
        due("heed below 0 forgets", w.of(0, 2), 240);
    }

    private static void on() {
        promise = 12;
        UrchinSchool x = with(0, 0, 0, 0, 0, 0);
        write(x, "pass 3");
        x.learn(0, 3);
        x.learn(2, 4);
        x.beach(2, true);
        x.lesson(1, 7);
        due("all now", x.on(0, 0), 3);
        due("held now", x.on(0, 1), 2);
        due("held behind 1", x.on(1, 1), 4);
        due("all behind 2", x.on(2, 0), 131);
        due("held behind 2", x.on(2, 1), 6);
        due("one", x.on(60, 11), 131);
        due("one that is out", x.on(60, 12), 4);
        due("what 2", x.on(0, 2), NONE);
        due("what 9", x.on(0, 9), NONE);
        due("what 13", x.on(0, 13), NONE);
        due("what -1", x.on(0, -1), NONE);
        due("what low", x.on(0, LOW), NONE);
        due("what, ahead of n", x.on(61, 13), NONE);
        due("n", x.on(61, 10), BAD);
        due("n", x.on(-1, 0), BAD);
        due("nothing changed", x.told(0), 0);
        due("nothing changed", x.told(4), 2);
    }

    private static void lasts() {
        promise = 13;
        UrchinSchool x = with(0, 0, 0, 0);
        write(x, "dull 9 t=3&f=0;dull 9 t=3&p=0&f=1;dull 9 t=0&f=2");
        x.learn(0, 7);
        x.learn(1, 2);
        due("till the tide at 3 has gone", x.lasts(0), 4);
        due("the other keeps it", x.lasts(1), -5);
        due("one tide", x.lasts(2), 1);
        due("not now", x.lasts(3), 0);
        due("nothing changed", x.of(0, 2), 7);
        due("fact", x.lasts(8), NONE);
        due("fact", x.lasts(-1), NONE);
        x.beach(0, true);
        due("one out does not count", x.lasts(0), 0);
        x.beach(0, false);
        UrchinSchool y = with(0, 0);
        write(y, "keep 1");
        y.learn(0, 2);
        for (int k = 0; k < 4; k++) {
            due("for ever", y.lasts(1), -5);
        }
        y.lesson(2, 0);
        due("till another takes its room", y.lasts(1), 3);
        due("comes later only", y.lasts(0), 0);
    }

    /** A fact that is forgotten when others have come one by one, each at a tide of twenty: by 60 tides, and no fewer. */
    private static UrchinSchool long60(int forgetsAt) {
        UrchinSchool x = with(0, 0, 0, 0, 0, 0);
        String others = "f=0&c<2&!t=9|f=1&c<3&!(c=2&t=8)|f=2&c<4&!(c=3&t=7)";
        due("ledge", write(x, "pass 99;dull 9 p=0&(" + others + "|f=7&c=4&t=" + forgetsAt + ")"), 0);
        x.lesson(3, 0);
        x.lesson(2, 1);
        x.lesson(1, 2);
        return x;
    }

    private static void lastsLong() {
        promise = 13;
        UrchinSchool x = long60(9);
        x.learn(0, 128);
        due("behind 59", x.on(59, 10), 135);
        due("behind 60", x.on(60, 10), 7);
        due("60", x.lasts(7), 60);
        UrchinSchool y = long60(0);
        y.learn(0, 128);
        due("61 are not looked at", y.lasts(7), -5);
        promise = 15;
        UrchinSchool z = long60(9);
        z.beach(1, true);
        due("-5 is greater than 60", z.tell(7), 2);
        z.beach(2, true);
        due("60", z.tell(7), 0);
        promise = 19;
        x.learn(2, 128);
        x.beach(1, true);
        due("one of two by 59", x.odds(7, 59, 1), 1);
        due("one of two by 60", x.odds(7, 60, 0) * 10 + x.odds(7, 60, 1), 12);
    }

    private static void teach() {
        promise = 14;
        UrchinSchool x = with(0, 0, 0, 0);
        x.beach(1, true);
        due("most", x.teach(1, -1), 1);
        due("the first", x.teach(1, 0), 0);
        due("most of 2", x.teach(2, -1), 2);
        due("k 0", x.teach(2, 0), 0);
        due("k 1", x.teach(2, 1), 1);
        due("fewer", x.teach(2, 2), -5);
        due("fewer", x.teach(1, 1), -5);
        due("k 2", x.teach(3, 2), 2);
        due("most of 3", x.teach(3, -1), 3);
        due("n 0", x.teach(0, 0), BAD);
        due("n 4", x.teach(4, 2), BAD);
        due("k 3", x.teach(1, 3), NONE);
        due("k -2, ahead of n", x.teach(0, -2), NONE);
        x.lesson(0, 7);
        due("in place of theirs", x.teach(1, -1), 1);
        due("nothing changed", x.told(10), 7);
        due("nothing changed", x.told(0), 0);
        due("nothing changed", x.of(0, 2), 0);
        UrchinSchool y = with(0, 0);
        write(y, "dull 9 c=1");
        due("8: none", y.teach(2, 0), 8);
        due("8 ahead of a fact", y.teach(2, 1), 0);
        due("most", y.teach(2, -1), 1);
        write(y, "dull 9 c>0;dull 3 f<3");
        due("third", y.teach(3, 2), 3);
        due("first", y.teach(3, 0), 0);
        due("second", y.teach(3, 1), 0);
        UrchinSchool z = with(0, 0, 1, 3, 2, 2);
        write(z, "pass 5;dull 4 f<4&p=0;loud 4 f=6");
        due("all three heed these", z.teach(3, -1), 9);
        due("first", z.teach(3, 0), 4);
        due("second", z.teach(3, 1), 5);
        due("third", z.teach(3, 2), 6);
    }

    private static void tell() {
        promise = 15;
        UrchinSchool x = with(0, 0, 0, 0, 0, 0);
        write(x, "dull 9 t=2&p=0;dull 9 t=5&p=1;dull 9 t=3&p=2");
        due("greatest", x.tell(0), 1);
        x.beach(1, true);
        due("of those not out", x.tell(0), 2);
        x.beach(2, true);
        due("the last left", x.tell(0), 0);
        x.beach(0, true);
        due("all are out", x.tell(0), -5);
        due("fact", x.tell(8), NONE);
        due("fact", x.tell(-1), NONE);
        UrchinSchool y = with(0, 0, 0, 0, 0, 0);
        write(y, "dull 9 t=9&p=0");
        due("-5 is greater than all", y.tell(3), 1);
        write(y, "dull 9 t=9");
        due("of several the first", y.tell(3), 0);
        write(y, "keep 1;dull 9 t=9&p<2");
        y.learn(2, 1);
        due("no room", y.tell(1), 0);
        due("known already", y.tell(0), 0);
        due("nothing changed", y.of(0, 2), 0);
    }

    private static void see() {
        promise = 16;
        UrchinSchool x = with(0, 0, 0, 0);
        due("first", x.see(0, 0, 0, true), 1);
        due("urchin", x.see(2, 0, 0, true), NONE);
        due("urchin", x.see(-2, 0, 0, true), NONE);
        due("fact", x.see(0, 0, 8, true), NONE);
        due("fact, ahead of n", x.see(0, 13, -1, true), NONE);
        due("n", x.see(0, 13, 7, true), BAD);
        due("n", x.see(0, -1, 7, true), BAD);
        due("second", x.see(1, 12, 7, false), 2);
        for (int i = 3; i <= 5; i++) {
            due("the next", x.see(1, i, i, true), i);
        }
        due("sixth", x.see(0, 0, 0, true), FULL);
        due("bad ahead of full", x.see(0, 13, 0, true), BAD);
        due("none ahead of full", x.see(2, 0, 0, true), NONE);
        due("five", x.count(2), 5);
        due("none then", x.see(-1, 99, 99, true), 0);
        due("none", x.count(2), 0);
        due("first again", x.see(0, 0, 0, true), 1);
    }

    private static void knew() {
        promise = 17;
        UrchinSchool x = with(0, 0, 0, 0);
        due("nothing seen: all sets", x.knew(0, 0), 256);
        due("the least", x.knew(0, 1), 0);
        x.see(0, 0, 3, true);
        due("half", x.knew(0, 0), 128);
        due("the least", x.knew(0, 1), 8);
        due("of the other", x.knew(1, 0), 0);
        due("none", x.knew(1, 1), -5);
        x.learn(0, 8);
        due("of the other", x.knew(1, 0), 256);
        x.see(0, 1, 4, false);
        due("by a tide", x.knew(0, 0), 72);
        x.see(0, 2, 7, true);
        due("by room", x.knew(0, 0), 16);
        due("the least", x.knew(0, 1), 136);
        x.see(0, 12, 0, true);
        due("later", x.knew(0, 0), 5);
        due("the least", x.knew(0, 1), 137);
        due("no urchin", x.knew(2, 0), NONE);
        due("no urchin", x.knew(-1, 0), NONE);
        due("what", x.knew(0, 2), NONE);
        due("what", x.knew(0, -1), NONE);
        due("nothing changed", x.of(0, 2), 8);
        x.pass(1);
        due("from now on", x.knew(0, 0), 5);
    }

    private static void firm() {
        promise = 18;
        UrchinSchool x = with(1, 0, 0, 0);
        due("nothing seen", x.firm(0, 0), 10);
        due("the least", x.firm(0, 1), 0);
        x.learn(1, 1);
        x.see(0, 1, 0, true);
        due("pass 6", x.firm(0, 0), 7);
        due("the least", x.firm(0, 1), 3);
        x.see(0, 1, 0, false);
        due("both: none", x.firm(0, 0), 0);
        due("none", x.firm(0, 1), -5);
        x.see(-1, 0, 0, false);
        write(x, "loud 9 v=4|v=7;pass 12");
        x.see(0, 1, 0, true);
        due("by a test", x.firm(0, 0), 3);
        due("by a test", x.firm(0, 1), 4);
        due("the other's is no matter", x.firm(1, 0), 0);
        x.see(-1, 0, 0, false);
        x.see(0, 12, 0, false);
        due("behind 12", x.firm(0, 0), 7);
        due("no urchin", x.firm(2, 0), NONE);
        due("no urchin", x.firm(-1, 0), NONE);
        due("what", x.firm(0, 2), NONE);
        due("what", x.firm(0, -1), NONE);
        due("nothing changed", x.of(0, 1), 0);
    }

    private static void odds() {
        promise = 19;
        UrchinSchool x = with(0, 0, 0, 0, 0, 0, 0, 0);
        x.learn(0, 1);
        x.learn(1, 2);
        x.learn(2, 2);
        due("3", x.odds(0, 0, 0), 3);
        due("of 4", x.odds(0, 0, 1), 4);
        due("1", x.odds(1, 0, 0), 1);
        due("of 1", x.odds(1, 0, 1), 1);
        due("0", x.odds(2, 60, 0), 0);
        due("of 1", x.odds(2, 60, 1), 1);
        x.beach(3, true);
        due("2", x.odds(0, 60, 0), 2);
        due("of 3", x.odds(0, 60, 1), 3);
        x.beach(2, true);
        due("1", x.odds(1, 5, 0), 1);
        due("of 2", x.odds(1, 5, 1), 2);
        write(x, "dull 9 t=4");
        due("behind 4", x.odds(0, 4, 0), 1);
        due("behind 5", x.odds(0, 5, 0), 0);
        due("fact", x.odds(8, 0, 0), NO);
        due("fact", x.odds(-1, 0, 0), NO);
        due("n", x.odds(0, 61, 0), NO);
        due("n", x.odds(0, -1, 0), NO);
        due("part", x.odds(0, 0, 2), NO);
        due("part", x.odds(0, 0, -1), NO);
        due("nothing changed", x.of(0, 2), 1);
        x.beach(0, true);
        x.beach(1, true);
        due("all are out", x.odds(0, 0, 0), NO);
        UrchinSchool y = with(0, 0, 0, 0, 0, 0, 0, 0, 0, 0, 0, 0);
        y.learn(0, 1);
        y.learn(1, 2);
        y.learn(2, 2);
        due("5 of 6", y.odds(0, 3, 0) * 10 + y.odds(0, 3, 1), 56);
    }

    private static void mean() {
        promise = 20;
        UrchinSchool x = with(0, 0, 0, 0, 0, 0, 0, 0);
        due("0", x.mean(0), 0);
        due("by 1", x.mean(1), 1);
        x.learn(0, 255);
        x.learn(1, 3);
        due("10 by 4", x.mean(0), 5);
        due("10 by 4", x.mean(1), 2);
        x.beach(3, true);
        due("10 by 3", x.mean(0), 10);
        due("10 by 3", x.mean(1), 3);
        x.beach(0, true);
        due("2 by 2", x.mean(0), 1);
        due("2 by 2", x.mean(1), 1);
        due("part", x.mean(2), NO);
        due("part", x.mean(-1), NO);
        x.beach(1, true);
        x.beach(2, true);
        due("none", x.mean(0), NO);
        due("none", x.mean(1), NO);
    }

    private static void plan() {
        promise = 21;
        UrchinSchool x = with(0, 0, 0, 0);
        due("what 0, whatever", x.plan(0, HIGH), 1);
        due("what 4", x.plan(4, 0), NONE);
        due("what -2", x.plan(-2, 0), NONE);
        due("1", x.plan(1, 2), NONE);
        due("1", x.plan(1, -1), NONE);
        due("2", x.plan(2, 2), NONE);
        due("2", x.plan(2, -1), NONE);
        due("3, urchin", x.plan(3, 20), NONE);
        due("3, urchin", x.plan(3, -1), NONE);
        due("3, urchin", x.plan(3, LOW), NONE);
        due("3, urchin", x.plan(3, HIGH), NONE);
        due("3, fact", x.plan(3, 18), NONE);
        due("3, fact", x.plan(3, 9), NONE);
        due("3", x.plan(3, 17), 2);
        due("3", x.plan(3, 0), 3);
        due("1", x.plan(1, 1), 4);
        due("2", x.plan(2, 0), 5);
        for (int i = 6; i <= 8; i++) {
            due("the next", x.plan(0, i), i);
        }
        due("ninth", x.plan(0, 0), FULL);
        due("none ahead of full", x.plan(1, 2), NONE);
        due("eight", x.count(3), 8);
        due("none then", x.plan(-1, -77), 0);
        due("none", x.count(3), 0);
        due("done of none", x.done(1), 0);
    }

    private static void done() {
        promise = 22;
        UrchinSchool x = with(0, 0, 0, 0, 0, 0);
        write(x, "pass 3");
        x.learn(0, 1);
        x.plan(0, 0);
        due("a tide", x.done(1), 2);
        x.plan(1, 0);
        due("out", x.done(1), 1);
        x.plan(3, 7);
        due("one that is out is told", x.done(0), 1);
        x.plan(0, 0);
        due("a tide", x.done(1), 2);
        x.plan(2, 0);
        due("in", x.done(0), 129);
        due("in", x.done(1), 4);
        x.plan(3, 27);
        x.plan(3, 26);
        due("told", x.done(0), 193);
        due("told", x.done(1), 6);
        due("what", x.done(2), NONE);
        due("what", x.done(-1), NONE);
        due("nothing changed", x.told(5) + x.told(0), 0);
        due("nothing changed", x.told(4), 1);
        x.plan(-1, 0);
        due("as it is", x.done(0), 1);
        x.lesson(1, 6);
        x.plan(0, 0);
        x.plan(0, 0);
        due("by the lessons", x.done(0), 65);
    }

    private static void book() {
        promise = 23;
        UrchinSchool x = with(0, 0, 0, 0);
        due("urchin, ahead of bad", x.book(2, 256), NONE);
        due("urchin", x.book(-2, 0), NONE);
        due("facts", x.book(0, 256), BAD);
        due("facts", x.book(1, -1), BAD);
        for (int i = 1; i <= 8; i++) {
            due("the next", x.book(i % 2, 255), i);
        }
        due("ninth", x.book(0, 0), FULL);
        due("bad ahead of full", x.book(0, 256), BAD);
        due("eight", x.count(4), 8);
        due("none then", x.book(-1, 999), 0);
        due("none", x.count(4), 0);
        due("again", x.book(0, 0), 1);
    }

    private static void looked() {
        promise = 24;
        UrchinSchool x = with(0, 0, 0, 0, 0, 0);
        due("no book", x.looked(), -5);
        x.learn(1, 200);
        x.book(1, 200);
        x.book(0, 0);
        due("all is so", x.looked(), -5);
        x.book(2, 1);
        due("the third row", x.looked(), 2);
        x.learn(2, 1);
        due("now it is so", x.looked(), -5);
        x.learn(0, 4);
        due("the second row", x.looked(), 1);
        x.learn(1, 201);
        due("the first row", x.looked(), 0);
        x.beach(1, true);
        due("out or not", x.looked(), 0);
        x.learn(1, 200);
        x.learn(0, 0);
        due("all is so", x.looked(), -5);
    }

    private static void act(UrchinSchool x, int urchin, int act, int with, int want, int... bodies) {
        due("act(" + urchin + ", " + act + ", " + with + ")", x.act(urchin, act, with), want);
        due("bodies", x.count(6), bodies.length);
        for (int i = 0; i < bodies.length; i++) {
            due("body " + i, x.trace(i), bodies[i]);
        }
        due("no more", x.trace(bodies.length), NONE);
    }

    private static void acts() {
        promise = 25;
        UrchinSchool x = with(0, 2, 1, 3, 2, 4, 3, 5, 4, 6, 5, 7);
        act(x, 0, 0, 10, 10, 1);
        act(x, 0, 1, 10, 8, 2, 1);
        act(x, 0, 2, 10, 16, 3, 2, 1);
        act(x, 1, 0, 10, 31, 11, 1);
        act(x, 1, 1, 10, 28, 2, 11, 1);
        act(x, 1, 2, 10, 56, 3, 2, 11, 1);
        act(x, 2, 0, 10, 12, 1);
        act(x, 2, 1, 10, -8, 21, 2, 1);
        act(x, 2, 2, 10, -16, 3, 21, 2, 1);
        act(x, 3, 0, 10, 13, 1);
        act(x, 3, 1, 10, 8, 2, 1);
        act(x, 3, 2, 10, 16 ^ 7, 31, 3, 2, 1);
        act(x, 4, 0, 10, 34, 11, 1);
        act(x, 4, 1, 10, 28, 2, 11, 1);
        act(x, 4, 2, 10, 60, 41, 3, 2, 11, 1, 11, 1);
        act(x, 5, 0, 10, 15 ^ 5, 51, 1);
        act(x, 5, 1, 10, -3, 21, 2, 51, 1);
        act(x, 5, 2, 10, -6, 3, 21, 2, 51, 1);
        UrchinSchool y = with(0, 0, 6, 9);
        act(y, 1, 0, 10, 11, 1);
        act(y, 1, 1, 10, 11, 61, 2, 1);
        act(y, 1, 2, 10, 22 ^ 7, 31, 3, 61, 2, 1);
        act(y, 1, 0, HIGH, LOW, 1);
        act(y, 0, 2, HIGH, -2, 3, 2, 1);
        act(x, 1, 0, HIGH, HIGH * 3 + 1, 11, 1);
        act(x, 9, 0, 10, 0);
        act(x, 0, 2, 10, 16, 3, 2, 1);
        act(x, -1, 0, 10, 0);
        act(x, 0, 2, 10, 16, 3, 2, 1);
        act(x, 0, 3, 10, 0);
        act(x, 0, 2, 10, 16, 3, 2, 1);
        act(x, 0, -1, 10, 0);
    }

    private static void trace() {
        promise = 26;
        UrchinSchool x = with(4, 1, 1, 1);
        due("no act yet", x.trace(0), NONE);
        x.act(0, 2, 1);
        due("first", x.trace(0), 41);
        due("fourth", x.trace(3), 11);
        due("last", x.trace(6), 1);
        due("one more", x.trace(7), NONE);
        due("below", x.trace(-1), NONE);
        due("20", x.trace(20), NONE);
        due("high", x.trace(HIGH), NONE);
        due("low", x.trace(LOW), NONE);
        x.act(1, 0, 1);
        due("the latest act's", x.trace(0), 11);
        due("the latest act's", x.trace(2), NONE);
        x.pass(1);
        x.image();
        x.act(1, 1, 1);
        x.undo();
        due("stays by undo", x.trace(0), 2);
        due("stays by undo", x.count(6), 3);
        x.act(7, 0, 0);
        due("no trace then", x.trace(0), NONE);
    }

    private static void as() {
        promise = 27;
        UrchinSchool x = with(0, 1, 1, 2, 2, 3, 3, 4, 4, 5, 5, 6);
        int[][] taken = {{0}, {0, 1}, {0, 2}, {0, 3}, {0, 1, 4}, {0, 2, 5}};
        for (int i = 0; i < 6; i++) {
            for (int k = 0; k < 7; k++) {
                boolean is = false;
                for (int kind : taken[i]) {
                    is |= kind == k;
                }
                due("as(" + i + ", " + k + ")", x.as(i, k), is ? i + 1 : -6);
            }
        }
        UrchinSchool y = with(6, 9);
        int[] told = {9, -6, -6, 9, -6, -6, 9};
        for (int k = 0; k < 7; k++) {
            due("a told one", y.as(0, k), told[k]);
        }
        due("k", y.as(0, 7), NONE);
        due("k", y.as(0, -1), NONE);
        due("urchin", y.as(1, 0), NONE);
        due("urchin", y.as(-1, 0), NONE);
    }

    private static void image() {
        promise = 28;
        UrchinSchool x = new UrchinSchool();
        due("none", x.image(), 0);
        x.urchin(0, 0);
        x.urchin(0, 0);
        due("two", x.image(), 2);
        x.urchin(0, 0);
        due("the newer image", x.undo(), 2);
        due("two", x.count(0), 2);
    }

    private static void undo() {
        promise = 29;
        UrchinSchool x = with(0, 3, 6, 4);
        due("no image", x.undo(), STATE);
        fill(x);
        due("image", x.image(), 2);
        String was = all(x);
        x.urchin(1, 1);
        x.row(1, 0, 1);
        x.learn(0, 99);
        x.learn(1, 98);
        x.beach(1, false);
        x.beach(0, true);
        x.lesson(0, 1);
        x.lesson(2, 5);
        x.see(-1, 0, 0, true);
        x.plan(-1, 0);
        x.book(-1, 0);
        x.see(1, 1, 1, false);
        x.plan(0, 0);
        x.book(1, 1);
        x.pass(7);
        x.feed('x');
        x.ledge();
        write(x, "pass 1;keep 8;dull 9 f=1");
        x.act(0, 2, 5);
        due("how many", x.undo(), 2);
        Check.holds("promise 29: all is as the image", was.equals(all(x)));
        due("the trace stays", x.trace(0), 3);
        write(x, "pass 7;keep 7");
        x.pass(1);
        x.undo();
        due("the image stays", x.told(1), 3);
        Check.holds("promise 29: all is as the image, again", was.equals(all(x)));
        due("the tape's signs", x.feed(' '), 4);
        x.feed('2');
        due("the tape's signs", x.ledge(), -13);
        x.undo();
        x.feed('p');
        x.feed(' ');
        x.feed('2');
        due("the tape is as it was", x.ledge(), 1);
        due("keep 2", x.told(1), 2);
    }

    private static void fill(UrchinSchool x) {
        write(x, "keep 3;pass 2;loud 2 f=1");
        x.row(1, 0, 7);
        x.learn(0, 3);
        x.learn(1, 20);
        x.beach(1, true);
        x.lesson(0, 6);
        x.lesson(3, 2);
        x.see(0, 1, 1, true);
        x.see(0, 2, 3, false);
        x.plan(3, 5);
        x.plan(0, 0);
        x.plan(1, 0);
        x.book(0, 3);
        x.book(1, 20);
        x.pass(2);
        x.feed('k');
        x.feed('e');
        x.feed('e');
    }

    private static String all(UrchinSchool x) {
        StringBuilder text = new StringBuilder();
        for (int what = 0; what < 14; what++) {
            text.append(x.told(what)).append(' ');
        }
        for (int what = 0; what < 6; what++) {
            text.append(x.count(what)).append(' ');
        }
        for (int i = 0; i < 3; i++) {
            for (int what = 0; what < 18; what++) {
                text.append(x.of(i, what)).append(' ');
            }
            text.append(x.knew(i, 0)).append(' ').append(x.knew(i, 1)).append(' ').append(x.firm(i, 0)).append(' ');
        }
        text.append(x.done(0)).append(' ').append(x.done(1)).append(' ').append(x.looked());
        return text.toString();
    }

    private static void count() {
        promise = 30;
        UrchinSchool x = with(0, 0, 0, 0);
        write(x, "keep 1");
        write(x, "keep 1");
        write(x, "keep 1");
        for (int i = 0; i < 4; i++) {
            x.see(0, 0, 0, true);
            x.feed('k');
        }
        for (int i = 0; i < 5; i++) {
            x.plan(0, 0);
            x.feed('k');
        }
        for (int i = 0; i < 6; i++) {
            x.book(0, 0);
        }
        x.act(0, 1, 0);
        int[] want = {2, 3, 4, 5, 6, 9, 2};
        for (int what = 0; what < 7; what++) {
            due("count " + what, x.count(what), want[what]);
        }
        due("what", x.count(7), NONE);
        due("what", x.count(-1), NONE);
        due("what", x.count(LOW), NONE);
        x.act(0, 9, 0);
        due("none ran", x.count(6), 0);
    }
}
