/** Promises 25 to 27: acts, their trace, kinds above. */
final class ActBoundaries extends Boundaries {
    /** Each kind but the last, at its own number. */
    private static final int[] FIRST_KINDS = {0, 9, 1, 9, 2, 9, 3, 9, 4, 9, 5, 9};
    /** Each kind but the first, the last ahead. */
    private static final int[] LAST_KINDS = {6, 0, 5, 1, 4, 2, 3, 3, 2, 4, 1, 5};

    static void run() {
        urchin();
        keeper();
        infant();
        grey();
        monitor();
        pupil();
        told();
        wrapping();
        bodyOfKind();
        fromTheLeft();
        refused();
        traced();
        traceRefusals();
        latest();
        as();
        asKinds();
        asRefusals();
    }

    /** What an act answers, and, one number behind the other, the bodies that ran. */
    private static void act(UrchinSchool x, int urchin, int act, int with, int want, int... bodies) {
        String call = "act(" + urchin + ", " + act + ", " + with + ")";
        due(call, x.act(urchin, act, with), want);
        due(call + ": how many bodies", x.count(6), bodies.length);
        for (int i = 0; i < bodies.length; i++) {
            due(call + ": body " + i, x.trace(i), bodies[i]);
        }
        due(call + ": behind the last", x.trace(bodies.length), NONE);
    }

    /** A school whose last one is of a kind, with v; its number is 5. */
    private static UrchinSchool sixth(int kind, int v) {
        return with(0, 1, 1, 2, 2, 3, 3, 4, 4, 5, kind, v);
    }

    private static void urchin() {
        by(25, "BODIES: URCHIN: 1 leans: x + i. 2 says: leans(x) - v. 3 bristles: says(x) * 2.");
        UrchinSchool x = sixth(0, 9);
        act(x, 5, 0, 10, 15, 1);
        act(x, 5, 1, 10, 6, 2, 1);
        act(x, 5, 2, 10, 12, 3, 2, 1);
        act(x, 0, 0, 0, 0, 1);
        act(x, 0, 1, 0, -1, 2, 1);
        act(x, 0, 2, 0, -2, 3, 2, 1);
        act(x, 5, 0, HIGH, LOW + 4, 1);
        act(x, 5, 1, LOW, HIGH - 3, 2, 1);
        act(x, 5, 2, HIGH, -10, 3, 2, 1);
        act(x, 5, 2, LOW, -8, 3, 2, 1);
    }

    private static void keeper() {
        by(25, "KEEPER: 11 leans: super.leans(x * 3).");
        UrchinSchool x = sixth(1, 9);
        act(x, 5, 0, 10, 35, 11, 1);
        act(x, 5, 1, 10, 26, 2, 11, 1);
        act(x, 5, 2, 10, 52, 3, 2, 11, 1);
        act(x, 1, 0, 0, 1, 11, 1);
        act(x, 1, 1, -1, -4, 2, 11, 1);
        act(x, 5, 0, HIGH, HIGH + 3, 11, 1);
        act(x, 5, 0, LOW, LOW + 5, 11, 1);
        act(x, 5, 2, LOW, -8, 3, 2, 11, 1);
    }

    private static void infant() {
        by(25, "INFANT: 21 says: -super.says(x).");
        UrchinSchool x = sixth(2, 9);
        act(x, 5, 0, 10, 15, 1);
        act(x, 5, 1, 10, -6, 21, 2, 1);
        act(x, 5, 2, 10, -12, 3, 21, 2, 1);
        act(x, 2, 1, 0, 1, 21, 2, 1);
        act(x, 2, 1, 1, 0, 21, 2, 1);
        act(x, 5, 1, LOW + 4, LOW, 21, 2, 1);
        act(x, 5, 2, LOW + 4, 0, 3, 21, 2, 1);
        act(x, 5, 1, LOW + 3, LOW + 1, 21, 2, 1);
    }

    private static void grey() {
        by(25, "GREY: 31 bristles: super.bristles(x) ^ 7.");
        UrchinSchool x = sixth(3, 9);
        act(x, 5, 0, 10, 15, 1);
        act(x, 5, 1, 10, 6, 2, 1);
        act(x, 5, 2, 10, 11, 31, 3, 2, 1);
        act(x, 5, 2, 4, 7, 31, 3, 2, 1);
        act(x, 5, 2, 3, -2 ^ 7, 31, 3, 2, 1);
        act(x, 3, 2, 4, 1, 31, 3, 2, 1);
        act(x, 5, 2, HIGH, -10 ^ 7, 31, 3, 2, 1);
        act(x, 5, 2, 1 << 30, (LOW - 8) ^ 7, 31, 3, 2, 1);
    }

    private static void monitor() {
        by(25, "MONITOR: 41 bristles: super.bristles(x - 1) + leans(2).");
        UrchinSchool x = sixth(4, 9);
        act(x, 5, 0, 10, 35, 11, 1);
        act(x, 5, 1, 10, 26, 2, 11, 1);
        act(x, 5, 2, 10, 57, 41, 3, 2, 11, 1, 11, 1);
        act(x, 5, 2, 0, -3, 41, 3, 2, 11, 1, 11, 1);
        act(x, 4, 2, 1, 8, 41, 3, 2, 11, 1, 11, 1);
        act(x, 5, 2, LOW, -3, 41, 3, 2, 11, 1, 11, 1);
        act(x, 5, 2, HIGH, -9, 41, 3, 2, 11, 1, 11, 1);
    }

    private static void pupil() {
        by(25, "PUPIL: 51 leans: super.leans(x) ^ i.");
        UrchinSchool x = sixth(5, 9);
        act(x, 5, 0, 10, 15 ^ 5, 51, 1);
        act(x, 5, 1, 10, -1, 21, 2, 51, 1);
        act(x, 5, 2, 10, -2, 3, 21, 2, 51, 1);
        act(x, 5, 0, -5, 5, 51, 1);
        act(x, 5, 0, -6, -1 ^ 5, 51, 1);
        act(x, 5, 0, HIGH, LOW + 4 ^ 5, 51, 1);
        UrchinSchool y = with(5, 0);
        act(y, 0, 0, 10, 10, 51, 1);
        act(y, 0, 1, 10, -10, 21, 2, 51, 1);
        act(y, 0, 1, LOW, LOW, 21, 2, 51, 1);
    }

    private static void told() {
        by(25, "TOLD: 61 says: super.says(x) + v.");
        UrchinSchool x = sixth(6, 9);
        act(x, 5, 0, 10, 15, 1);
        act(x, 5, 1, 10, 15, 61, 2, 1);
        act(x, 5, 2, 10, 30 ^ 7, 31, 3, 61, 2, 1);
        act(x, 5, 1, LOW, LOW + 5, 61, 2, 1);
        act(x, 5, 1, HIGH, LOW + 4, 61, 2, 1);
        act(x, 5, 2, HIGH, 8 ^ 7, 31, 3, 61, 2, 1);
    }

    private static void wrapping() {
        by(25, "ACTS of an URCHIN with x (ints, wrapping): leans, says, bristles; i its number.");
        UrchinSchool x = with(0, 9, 0, 9, 0, 9, 0, 9, 0, 9, 0, 9);
        for (int i = 0; i < 6; i++) {
            act(x, i, 0, HIGH - i, HIGH, 1);
            act(x, i, 0, HIGH - i + 1, LOW, 1);
            act(x, i, 1, LOW - i + 9, LOW, 2, 1);
            act(x, i, 1, LOW - i + 8, HIGH, 2, 1);
            act(x, i, 2, LOW - i + 9, 0, 3, 2, 1);
            act(x, i, 2, LOW - i + 8, -2, 3, 2, 1);
            act(x, i, 2, (1 << 30) - i + 9, LOW, 3, 2, 1);
            act(x, i, 2, (1 << 30) - i + 8, HIGH - 1, 3, 2, 1);
        }
        UrchinSchool y = with(1, 0);
        act(y, 0, 0, 715827882, HIGH - 1, 11, 1);
        act(y, 0, 0, 715827883, LOW + 1, 11, 1);
        act(y, 0, 0, -715827883, HIGH, 11, 1);
    }

    private static void bodyOfKind() {
        by(25, "leans(..) and so on: the body of its KIND, or, if that has none, of the next KIND above that has one; "
            + "super.leans(..): so from the KIND above the body's on;");
        int[][] leans = {{1}, {11, 1}, {1}, {1}, {11, 1}, {51, 1}, {1}};
        int[][] says = {{2, 1}, {2, 11, 1}, {21, 2, 1}, {2, 1}, {2, 11, 1}, {21, 2, 51, 1}, {61, 2, 1}};
        int[][] bristles = {{3, 2, 1}, {3, 2, 11, 1}, {3, 21, 2, 1}, {31, 3, 2, 1}, {41, 3, 2, 11, 1, 11, 1},
            {3, 21, 2, 51, 1}, {31, 3, 61, 2, 1}};
        for (int kind = 0; kind < 7; kind++) {
            UrchinSchool x = sixth(kind, 7);
            act(x, 5, 0, -1, new int[] {4, 2, 4, 4, 2, 1, 4}[kind], leans[kind]);
            act(x, 5, 1, -1, new int[] {-3, -5, 3, -3, -5, 6, 4}[kind], says[kind]);
            act(x, 5, 2, -1, new int[] {-6, -10, 6, -3, -5, 12, 15}[kind], bristles[kind]);
        }
    }

    private static void fromTheLeft() {
        by(25, "what stands in a body is done from the left on.");
        UrchinSchool x = with(4, 3);
        act(x, 0, 2, 1, 0, 41, 3, 2, 11, 1, 11, 1);
        act(x, 0, 2, 2, 6, 41, 3, 2, 11, 1, 11, 1);
    }

    private static void refused() {
        by(25, "An ACT (0 leans, 1 says, 2 bristles) of a URCHIN with x. 0, and no TRACE then: no such URCHIN, act.");
        UrchinSchool x = with(FIRST_KINDS);
        for (int i : new int[] {-1, 6, 7, 256, LOW, HIGH}) {
            act(x, 4, 2, 1, 0, 41, 3, 2, 11, 1, 11, 1);
            act(x, i, 0, 7, 0);
            due("no trace", x.trace(0), NONE);
            due("no body ran", x.count(6), 0);
        }
        for (int act : new int[] {-1, 3, 4, 256, LOW, HIGH}) {
            act(x, 5, 0, 1, 6 ^ 5, 51, 1);
            act(x, 5, act, 7, 0);
            act(x, 0, act, 7, 0);
        }
        act(x, 6, 3, 7, 0);
        act(new UrchinSchool(), 0, 0, 7, 0);
        act(x, 0, 0, 0, 0, 1);
        act(x, 5, 0, -5, 5, 51, 1);
        x.beach(1, true);
        act(x, 1, 1, 3, 1, 2, 11, 1);
    }

    private static void traced() {
        by(26, "THE TRACE: the numbers of the bodies that ran in the latest act(), as they began; the first 20 are kept.");
        UrchinSchool x = with(FIRST_KINDS);
        due("ahead of any act", x.trace(0), NONE);
        due("ahead of any act", x.count(6), 0);
        act(x, 4, 2, 0, -6, 41, 3, 2, 11, 1, 11, 1);
        for (int i = 7; i <= 21; i++) {
            due("the " + i + "-th", x.trace(i), NONE);
        }
        for (int times = 0; times < 30; times++) {
            x.act(4, 2, times);
            due("of the latest alone", x.count(6), 7);
            due("of the latest alone", x.trace(7), NONE);
        }
        act(x, 0, 0, 3, 3, 1);
        act(x, 3, 2, 7, 5, 31, 3, 2, 1);
        by(26, "THE TRACE's i-th body.");
        due("the first", x.trace(0), 31);
        due("the last", x.trace(3), 1);
        due("again", x.trace(0), 31);
    }

    private static void traceRefusals() {
        by(26, "NONE.");
        UrchinSchool x = with(LAST_KINDS);
        x.act(0, 2, 3);
        due("the last", x.trace(4), 1);
        for (int i : new int[] {-1, 5, 6, 19, 20, 21, 256, LOW, HIGH}) {
            due("i " + i, x.trace(i), NONE);
            due("i " + i + ", a new object", new UrchinSchool().trace(i), NONE);
        }
    }

    private static void latest() {
        by(26, "in the latest act()");
        UrchinSchool x = lively();
        due("the latest", x.trace(0), 41);
        x.act(1, 1, 9);
        String was = x.trace(0) + " " + x.trace(1) + " " + x.trace(2) + " " + x.trace(3);
        same("what ran", was, "61 2 1 -1");
        x.image();
        x.pass(3);
        x.urchin(6, 1);
        x.as(1, 3);
        x.undo();
        x.trace(-1);
        x.done(0);
        x.on(3, 0);
        x.beach(1, true);
        same("no other call", x.trace(0) + " " + x.trace(1) + " " + x.trace(2) + " " + x.trace(3), was);
        due("no other call", x.count(6), 3);
    }

    private static void as() {
        by(27, "A URCHIN taken for a KIND k (0 .. 6), or one under that: its v.");
        UrchinSchool x = with(FIRST_KINDS);
        for (int i = 0; i < 6; i++) {
            due("of its kind " + i, x.as(i, i), 9);
            due("under kind 0", x.as(i, 0), 9);
        }
        due("a told one", with(6, 9).as(0, 6), 9);
        due("v 0", with(6, 0).as(0, 6), 0);
        due("v 0", with(0, 0).as(0, 0), 0);
        x.beach(4, true);
        due("one that is out", x.as(4, 4), 9);
    }

    private static void asKinds() {
        by(27, "each of a KIND: 0 URCHIN; 1 KEEPER, 2 INFANT, 3 GREY under URCHIN; 4 MONITOR under KEEPER; "
            + "5 PUPIL under INFANT; 6 TOLD under GREY;");
        String[] isOf = {"1000000", "1100000", "1010000", "1001000", "1100100", "1010010", "1001001"};
        for (int kind = 0; kind < 7; kind++) {
            UrchinSchool x = sixth(kind, 8);
            StringBuilder got = new StringBuilder();
            for (int k = 0; k < 7; k++) {
                int v = x.as(5, k);
                got.append(v == 8 ? "1" : v == -6 ? "0" : "?");
            }
            same("kind " + kind, got.toString(), isOf[kind]);
        }
        by(27, "-6: it is of another KIND.");
        due("above its own", with(0, 5).as(0, 1), -6);
        due("beside its own", with(1, 5).as(0, 2), -6);
        due("under its own", with(1, 5).as(0, 4), -6);
        due("under another's", with(6, 5).as(0, 2), -6);
        due("the last kind", with(5, 5).as(0, 6), -6);
    }

    private static void asRefusals() {
        by(27, "NONE: urchin, k;");
        UrchinSchool x = with(LAST_KINDS);
        for (int i : new int[] {-1, 6, 256, LOW, HIGH}) {
            due("urchin " + i, x.as(i, 0), NONE);
        }
        due("urchin 2 of two", plain(2).as(2, 0), NONE);
        due("urchin 0 of none", new UrchinSchool().as(0, 0), NONE);
        for (int k : new int[] {-1, 7, 8, 256, LOW, HIGH}) {
            due("k " + k, x.as(0, k), NONE);
            due("k " + k, x.as(5, k), NONE);
        }
    }
}
