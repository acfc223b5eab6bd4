/** Promises 4 to 10: urchins, how they heed, what is told of them; lessons. */
final class UrchinBoundaries extends Boundaries {
    static void run() {
        urchins();
        urchinRefusals();
        atFirst();
        of();
        ofRefusals();
        testsOfOne();
        testsOfTides();
        sum();
        heedOfKinds();
        heedHalf();
        heedTold();
        heedGreatest();
        row();
        rowRefusals();
        learn();
        beach();
        lesson();
        lessonOfTide();
        told();
        all();
        few();
    }

    private static void urchins() {
        by(4, "URCHINS are numbered from 0 on, 6 at most, each of a KIND:");
        UrchinSchool x = new UrchinSchool();
        for (int i = 0; i < 6; i++) {
            due("urchin", x.urchin(i + 1, 9 - i), i);
            due("how many", x.count(0), i + 1);
        }
        for (int i = 0; i < 6; i++) {
            due("its kind", x.of(i, 0), i + 1);
            due("its v", x.of(i, 1), 9 - i);
        }
        due("the seventh", x.urchin(0, 0), FULL);
        by(4, "One of URCHINS: its number.");
        UrchinSchool y = new UrchinSchool();
        due("kind 0, v 0", y.urchin(0, 0), 0);
        due("kind 6, v 9", y.urchin(6, 9), 1);
        due("kind 0, v 9", y.urchin(0, 9), 2);
        due("kind 6, v 0", y.urchin(6, 0), 3);
        due("kinds", y.of(0, 0) + y.of(1, 0) * 10 + y.of(2, 0) * 100 + y.of(3, 0) * 1000, 6060);
        due("vs", y.of(0, 1) + y.of(1, 1) * 10 + y.of(2, 1) * 100 + y.of(3, 1) * 1000, 990);
    }

    private static void urchinRefusals() {
        by(4, "NONE: kind;");
        UrchinSchool x = new UrchinSchool();
        for (int kind : new int[] {-1, 7, 256, LOW, HIGH}) {
            due("kind " + kind, x.urchin(kind, 0), NONE);
            due("kind " + kind + ", ahead of bad", x.urchin(kind, 10), NONE);
        }
        by(4, "BAD: v;");
        for (int v : new int[] {-1, 10, 256, LOW, HIGH}) {
            due("v " + v, x.urchin(6, v), BAD);
        }
        due("none came", x.count(0), 0);
        by(4, "FULL: 6.");
        UrchinSchool y = plain(6);
        due("the seventh", y.urchin(0, 0), FULL);
        due("again", y.urchin(6, 9), FULL);
        due("none ahead of full", y.urchin(7, 0), NONE);
        due("none ahead of full", y.urchin(-1, -1), NONE);
        due("bad ahead of full", y.urchin(0, 10), BAD);
        due("bad ahead of full", y.urchin(0, -1), BAD);
        due("six", y.count(0), 6);
        due("no seventh", y.of(6, 0), NO_HEED);
    }

    private static void atFirst() {
        by(4, "a number v (0 .. 9), what it KNOWS (FACTS; none at first), OUT (in the light), or not (not at first);");
        UrchinSchool x = new UrchinSchool();
        x.image();
        for (int kind = 0; kind < 6; kind++) {
            int i = x.urchin(kind, 9 - kind);
            due("v", x.of(i, 1), 9 - kind);
            due("knows", x.of(i, 2), 0);
            due("out", x.of(i, 3), 0);
            x.learn(i, 255);
            x.beach(i, true);
        }
        x.undo();
        for (int i = 0; i < 6; i++) {
            x.urchin(0, 0);
            due("knows, where another was", x.of(i, 2), 0);
            due("out, where another was", x.of(i, 3), 0);
        }
        due("out", x.told(5), 0);
        by(4, "TOLD ones a ROW of four numbers (0 .. 9; 0 at first).");
        UrchinSchool y = new UrchinSchool();
        y.image();
        for (int round = 0; round < 2; round++) {
            for (int i = 0; i < 6; i++) {
                y.urchin(6, 9);
                for (int k = 0; k < 4; k++) {
                    due("heed by row " + k, y.of(i, 10 + k), -1);
                    due("row " + k, y.row(i, k, 9), 0);
                }
            }
            y.undo();
        }
    }

    private static void of() {
        by(5, "Of an URCHIN what 0 KIND, 1 v, 2 what it KNOWS (bits), 3 whether it is OUT, 10 and f HEED of FACT f.");
        UrchinSchool x = plain(5);
        x.urchin(6, 9);
        x.learn(5, 255);
        x.learn(0, 128);
        x.beach(5, true);
        x.row(5, 3, 9);
        due("kind of the first", x.of(0, 0), 0);
        due("kind of the last", x.of(5, 0), 6);
        due("v of the first", x.of(0, 1), 0);
        due("v of the last", x.of(5, 1), 9);
        due("knows, the first", x.of(0, 2), 128);
        due("knows, the last", x.of(5, 2), 255);
        due("out, the first", x.of(0, 3), 0);
        due("out, the last", x.of(5, 3), 1);
        due("heed of fact 0", x.of(0, 10), 3);
        due("heed of fact 7", x.of(0, 17), 3);
        due("heed of one that is out", x.of(5, 10), -9);
        due("heed of one that is out", x.of(5, 17), 0);
    }

    private static void ofRefusals() {
        by(5, "-999999: NONE.");
        UrchinSchool x = plain(2);
        for (int what : new int[] {-1, 4, 5, 9, 18, 19, 26, 256, -6, -10, LOW, LOW + 9, LOW + 10, LOW + 17, HIGH}) {
            due("what " + what, x.of(0, what), NO_HEED);
        }
        for (int i : new int[] {-1, 2, 6, 256, LOW, HIGH}) {
            due("urchin " + i, x.of(i, 0), NO_HEED);
            due("urchin " + i, x.of(i, 10), NO_HEED);
        }
        by(5, "Where an answer may be below 0, -999999 tells NONE.");
        UrchinSchool y = plain(1);
        write(y, "dull 4 f=1;dull 5 f=2;dull 2 f=3");
        due("an answer of -1", y.of(0, 11), -1);
        due("an answer of -2", y.of(0, 12), -2);
        due("none", y.of(0, 18), NO_HEED);
        due("none", y.of(1, 11), NO_HEED);
        due("none", y.of(-1, 11), NO_HEED);
    }

    /** For which of six, or of eight facts, a test holds: a loud clause of 99 lifts them all above 20. */
    private static void holds(UrchinSchool x, String e, boolean byFact, String want) {
        due("ledge of " + e, write(x, "loud 99 " + e) >= 0 ? 1 : 0, 1);
        StringBuilder got = new StringBuilder();
        for (int n = 0; n < (byFact ? 8 : 6); n++) {
            got.append((byFact ? x.of(0, 10 + n) : x.of(n, 10)) > 20 ? 1 : 0);
        }
        same("where " + e + " holds", got.toString(), want);
    }

    private static void testsOfOne() {
        by(5, "of one of URCHINS and a FACT p the number of the one, k its KIND, v its v, f the number of the FACT,");
        String[] numbers = {"p<0", "000000", "p<1", "100000", "p=0", "100000", "p>0", "011111", "p=5", "000001",
            "p>4", "000001", "p>5", "000000", "p<5", "111110", "p<6", "111111", "p=6", "000000", "p<99", "111111"};
        for (int i = 0; i < numbers.length; i += 2) {
            holds(plain(6), numbers[i], false, numbers[i + 1]);
        }
        String[] kinds = {"k<1", "000000", "k=1", "100000", "k<2", "100000", "k=2", "010000", "k=3", "001000", "k=4",
            "000100", "k=5", "000010", "k=6", "000001", "k>5", "000001", "k>6", "000000", "k=0", "000000"};
        for (int i = 0; i < kinds.length; i += 2) {
            holds(with(1, 0, 2, 0, 3, 0, 4, 0, 5, 0, 6, 0), kinds[i], false, kinds[i + 1]);
        }
        holds(plain(6), "k=0", false, "111111");
        holds(plain(6), "k<1", false, "111111");
        holds(plain(6), "k<0|k>0", false, "000000");
        String[] vs = {"v=0", "100000", "v<1", "100000", "v<0", "000000", "v=9", "000011", "v>8", "000011", "v>9",
            "000000", "v<9", "111100", "v=1", "010000", "v>0", "011111", "v=5|v=8", "001100"};
        for (int i = 0; i < vs.length; i += 2) {
            holds(with(0, 0, 0, 1, 0, 5, 0, 8, 0, 9, 0, 9), vs[i], false, vs[i + 1]);
        }
        String[] facts = {"f=0", "10000000", "f<1", "10000000", "f<0", "00000000", "f=7", "00000001", "f>6", "00000001",
            "f>7", "00000000", "f<8", "11111111", "f=8", "00000000", "f<7", "11111110", "f>0", "01111111"};
        for (int i = 0; i < facts.length; i += 2) {
            holds(plain(1), facts[i], true, facts[i + 1]);
        }
    }

    private static void testsOfTides() {
        by(5, "c how many it KNOWS, t TIDE modulo 10.");
        String[] counts = {"c=0", "100000", "c<1", "100000", "c<0", "000000", "c=1", "010000", "c=7", "000010", "c=8",
            "000001", "c>7", "000001", "c>8", "000000", "c<8", "111110", "c<9", "111111", "c=2", "001000", "c=4", "000100"};
        for (int i = 0; i < counts.length; i += 2) {
            UrchinSchool x = plain(6);
            int[] sets = {0, 128, 129, 0x55, 127, 255};
            for (int p = 0; p < 6; p++) {
                x.learn(p, sets[p]);
            }
            holds(x, counts[i], false, counts[i + 1]);
        }
        int[] tides = {0, 1, 8, 9, 10, 11, 19, 20, 99, 100, 9998, 9999};
        for (int tide : tides) {
            UrchinSchool x = plain(1);
            until(x, tide);
            due("tide", x.told(0), tide);
            int ten = tide % 10;
            write(x, "loud 1 t=" + ten + ";loud 2 t<" + ten + ";loud 4 t>" + ten);
            due("t is " + ten + " at " + tide, x.of(0, 10), 4);
            write(x, "loud 1 t>9;loud 2 t=10;loud 4 t<10;loud 8 t=" + (ten + 1));
            due("t is below 10 at " + tide, x.of(0, 10), 7);
        }
    }

    private static void sum() {
        by(5, "SUM of one for a FACT: 3, and the n of all loud whose E holds, less those of all dull, together (may be below 0).");
        UrchinSchool x = plain(2);
        due("no ledge", x.of(0, 10), 3);
        write(x, "keep 8;pass 8");
        due("no loud, no dull", x.of(0, 10), 3);
        write(x, "dull 3 f=0;dull 4 f=1;dull 2 f=2;loud 0 f=3;dull 0 f=4;dull 99 f=5;loud 99 f=6");
        int[] want = {0, -1, 1, 3, 3, -96, 102, 3};
        for (int f = 0; f < 8; f++) {
            due("heed of " + f, x.of(0, 10 + f), want[f]);
        }
        write(x, "loud 5 f=0;loud 5 f=0;dull 7 f=0;loud 5 f<2;dull 20 f>6;dull 20 f=7;loud 1 p=1");
        due("all of them", x.of(0, 10), 11);
        due("all of them", x.of(1, 10), 12);
        due("those that hold", x.of(0, 11), 8);
        due("none that holds", x.of(0, 12), 3);
        due("two below", x.of(0, 17), -37);
        due("two below, one above", x.of(1, 17), -36);
        write(x, "dull 9 f=0;loud 6 f=0;keep 3;pass 4;loud 1 f=1");
        due("dull ahead of loud", x.of(0, 10), 0);
        due("of another", x.of(0, 11), 4);
    }

    private static void heedOfKinds() {
        by(5, "HEED of these (may be below 0): URCHIN: SUM. KEEPER: SUM, and v.");
        UrchinSchool x = with(0, 9, 1, 9, 1, 0, 4, 9, 4, 0);
        write(x, "dull 4 f=1;dull 13 f=2;dull 12 f=3");
        heeds(x, 0, 3, -1, -10, -9);
        heeds(x, 1, 12, 8, -1, 0);
        heeds(x, 2, 3, -1, -10, -9);
        by(5, "MONITOR: as KEEPER; twice that, if it KNOWS the FACT.");
        heeds(x, 3, 12, 8, -1, 0);
        heeds(x, 4, 3, -1, -10, -9);
        x.learn(3, 15);
        x.learn(4, 5);
        heeds(x, 3, 24, 16, -2, 0);
        heeds(x, 4, 6, -1, -20, -9);
        x.learn(1, 15);
        heeds(x, 1, 12, 8, -1, 0);
        by(5, "GREY: SUM, less how many FACTS it KNOWS.");
        UrchinSchool y = with(3, 9);
        write(y, "dull 4 f=1;loud 5 f=2");
        heeds(y, 0, 3, -1, 8);
        y.learn(0, 128);
        heeds(y, 0, 2, -2, 7);
        y.learn(0, 7);
        heeds(y, 0, 0, -4, 5);
        y.learn(0, 255);
        heeds(y, 0, -5, -9, 0);
    }

    private static void heeds(UrchinSchool x, int i, int... want) {
        for (int f = 0; f < want.length; f++) {
            due("heed of " + i + " for fact " + f, x.of(i, 10 + f), want[f]);
        }
    }

    private static void heedHalf() {
        by(5, "INFANT: the half (cut toward 0) of SUM.");
        UrchinSchool x = with(2, 9, 5, 9, 5, 0);
        write(x, "dull 1 f=1;dull 2 f=2;dull 3 f=3;dull 4 f=4;dull 5 f=5;dull 6 f=6;loud 2 f=7");
        heeds(x, 0, 1, 1, 0, 0, 0, -1, -1, 2);
        x.learn(0, 255);
        heeds(x, 0, 1, 1, 0, 0, 0, -1, -1, 2);
        by(5, "PUPIL: as INFANT, and v.");
        heeds(x, 1, 10, 10, 9, 9, 9, 8, 8, 11);
        heeds(x, 2, 1, 1, 0, 0, 0, -1, -1, 2);
        write(x, "dull 21 f=1;dull 22 f=2;dull 23 f=3;dull 24 f=4");
        heeds(x, 1, 10, 0, 0, -1, -1, 10);
    }

    private static void heedTold() {
        by(5, "TOLD: as GREY, and its ROW at FACT modulo 4, less 4.");
        UrchinSchool x = with(6, 9, 6, 0);
        heeds(x, 0, -1, -1, -1, -1, -1, -1, -1, -1);
        x.row(0, 0, 9);
        x.row(0, 1, 4);
        x.row(0, 2, 0);
        x.row(0, 3, 1);
        heeds(x, 0, 8, 3, -1, 0, 8, 3, -1, 0);
        heeds(x, 1, -1, -1, -1, -1, -1, -1, -1, -1);
        x.learn(0, 255);
        heeds(x, 0, 0, -5, -9, -8, 0, -5, -9, -8);
        x.learn(0, 1);
        x.row(1, 3, 9);
        heeds(x, 0, 7, 2, -2, -1, 7, 2, -2, -1);
        heeds(x, 1, -1, -1, -1, 8, -1, -1, -1, 8);
    }

    private static void heedGreatest() {
        by(5, "HEED of these (may be below 0):");
        String loud = "loud 99 f<8;loud 99 f<8;loud 99 f<8;loud 99 f<8;loud 99 f<8;loud 99 f<8;loud 99 f<8;loud 99 f<8";
        UrchinSchool x = with(0, 9, 1, 9, 2, 9, 3, 9, 4, 9, 5, 9);
        due("ledge", write(x, loud), 0);
        x.learn(3, 255);
        x.learn(4, 255);
        int[] most = {795, 804, 397, 787, 1608, 406};
        for (int i = 0; i < 6; i++) {
            due("the greatest heed of " + i, x.of(i, 17), most[i]);
        }
        due("ledge", write(x, loud.replace("loud", "dull")), 1);
        int[] least = {-789, -780, -394, -797, -1560, -385};
        for (int i = 0; i < 6; i++) {
            due("the least heed of " + i, x.of(i, 17), least[i]);
        }
    }

    private static void row() {
        by(6, "The ROW of a TOLD one becomes n (0 .. 9) for FACTS modulo 4 being k: what it was.");
        UrchinSchool x = with(6, 0, 0, 0, 0, 0, 0, 0, 0, 0, 6, 0);
        for (int k = 0; k < 4; k++) {
            due("at first", x.row(5, k, 9), 0);
            due("to the greatest", x.row(5, k, 9), 9);
            for (int f = 0; f < 8; f++) {
                due("heed of " + f, x.of(5, 10 + f), f % 4 == k ? 8 : -1);
            }
            due("to the least", x.row(5, k, 0), 9);
            due("of the other", x.row(0, k, k + 1), 0);
        }
        for (int k = 0; k < 4; k++) {
            due("what it was", x.row(5, k, 0), 0);
            due("what it was", x.row(0, k, 0), k + 1);
        }
    }

    private static void rowRefusals() {
        by(6, "NONE: urchin, k;");
        UrchinSchool x = with(6, 0, 0, 0, 1, 0, 2, 0, 3, 0, 5, 0);
        for (int i : new int[] {-1, 6, 256, LOW, HIGH}) {
            due("urchin " + i, x.row(i, 0, 0), NONE);
            due("urchin " + i + ", ahead of bad", x.row(i, 0, 10), NONE);
        }
        due("urchin 1 of one", with(6, 0).row(1, 0, 0), NONE);
        for (int k : new int[] {-1, 4, 7, 256, LOW, HIGH}) {
            due("k " + k, x.row(0, k, 0), NONE);
            due("k " + k + ", ahead of bad", x.row(0, k, -1), NONE);
            due("k " + k + ", ahead of state", x.row(1, k, 0), NONE);
        }
        by(6, "BAD;");
        for (int n : new int[] {-1, 10, 256, LOW, HIGH}) {
            due("n " + n, x.row(0, 3, n), BAD);
            due("n " + n + ", ahead of state", x.row(1, 3, n), BAD);
        }
        by(6, "STATE: another KIND.");
        for (int i = 1; i < 6; i++) {
            due("kind " + x.of(i, 0), x.row(i, 0, 9), STATE);
        }
        due("kind 4", with(4, 0).row(0, 3, 0), STATE);
        due("not changed", x.row(0, 3, 0) + x.row(0, 0, 0), 0);
        due("not changed", x.of(4, 10), 3);
    }

    private static void learn() {
        by(7, "What one KNOWS becomes FACTS (0 .. 255): what it was.");
        UrchinSchool x = plain(6);
        due("none at first", x.learn(5, 255), 0);
        due("all", x.learn(5, 0), 255);
        due("none", x.learn(5, 128), 0);
        due("the last fact", x.learn(5, 1), 128);
        due("the first fact", x.learn(5, 1), 1);
        due("of another", x.learn(0, 254), 0);
        write(x, "keep 0");
        due("more than keep", x.learn(0, 255), 254);
        due("till a tide goes", x.of(0, 2), 255);
        x.beach(0, true);
        due("one that is out", x.learn(0, 3), 255);
        due("one that is out", x.of(0, 2), 3);
        by(7, "sets of them as bits (0 .. 255).");
        for (int fact = 0; fact < 8; fact++) {
            x.learn(1, 1 << fact);
            due("fact " + fact, x.told(3), 1 | 1 << fact);
        }
        by(7, "NONE;");
        for (int i : new int[] {-1, 6, 256, LOW, HIGH}) {
            due("urchin " + i, x.learn(i, 0), NONE);
            due("urchin " + i + ", ahead of bad", x.learn(i, 256), NONE);
        }
        by(7, "BAD.");
        for (int facts : new int[] {-1, 256, 257, LOW, HIGH}) {
            due("facts " + facts, x.learn(1, facts), BAD);
        }
        due("not changed", x.learn(1, 0), 128);
    }

    private static void beach() {
        by(8, "One is OUT, or not: whether it was.");
        UrchinSchool x = plain(6);
        due("not at first", x.beach(5, true), 0);
        due("out", x.beach(5, true), 1);
        due("which", x.told(5), 32);
        due("not, though it was", x.beach(5, false), 1);
        due("not", x.beach(5, false), 0);
        due("the first", x.beach(0, true), 0);
        due("which", x.told(5), 1);
        due("the others", x.of(5, 3) + x.of(1, 3), 0);
        for (int i = 1; i < 6; i++) {
            x.beach(i, true);
        }
        due("all", x.told(5), 63);
        by(8, "NONE.");
        for (int i : new int[] {-1, 6, 32, 33, 256, LOW, HIGH}) {
            due("urchin " + i, x.beach(i, false), NONE);
            due("urchin " + i, new UrchinSchool().beach(i, true), NONE);
        }
        due("not changed", x.told(5), 63);
        due("urchin 0 of none", new UrchinSchool().beach(0, true), NONE);
    }

    private static void lesson() {
        by(9, "The k-th (0 .. 3) of LESSONS becomes a FACT (fact -1: none): what it was (-5: none).");
        UrchinSchool x = new UrchinSchool();
        for (int k = 0; k < 4; k++) {
            due("none, and none again", x.lesson(k, -1), NOTHING);
            due("none at first", x.lesson(k, 7), NOTHING);
            due("the greatest", x.lesson(k, 0), 7);
            due("the least", x.lesson(k, -1), 0);
            due("none again", x.lesson(k, k), NOTHING);
        }
        for (int k = 0; k < 4; k++) {
            due("each its own", x.lesson(k, 7), k);
        }
        by(9, "NONE.");
        for (int k : new int[] {-1, 4, 10, 256, LOW, HIGH}) {
            due("k " + k, x.lesson(k, 0), NONE);
            due("k " + k, x.lesson(k, -1), NONE);
        }
        for (int fact : new int[] {-2, -5, 8, 9, 255, LOW, HIGH}) {
            due("fact " + fact, x.lesson(3, fact), NONE);
        }
        due("not changed", x.lesson(3, 0), 7);
        by(9, "LESSONS: four FACTS, or none for any (none at first);");
        UrchinSchool y = plain(1);
        for (int k = 0; k < 4; k++) {
            due("none", y.told(10 + k), NOTHING);
        }
        y.pass(8);
        due("none is taught", y.of(0, 2), 0);
    }

    private static void lessonOfTide() {
        by(9, "that of a TIDE is the one at TIDE modulo 4.");
        UrchinSchool x = plain(1);
        write(x, "keep 8");
        for (int k = 0; k < 4; k++) {
            x.lesson(k, 7 - k);
        }
        for (int tide = 0; tide < 9; tide++) {
            x.learn(0, 0);
            x.pass(1);
            due("taught at tide " + tide, x.of(0, 2), 1 << 7 - tide % 4);
        }
        UrchinSchool y = plain(1);
        y.lesson(2, 5);
        y.lesson(3, 4);
        until(y, 9998);
        y.learn(0, 0);
        y.pass(1);
        due("at tide 9998", y.of(0, 2), 32);
        y.learn(0, 0);
        due("at tide 9999", y.on(1, 0), 16);
        y.lesson(0, 1);
        due("at tide 10000", y.on(2, 0), 18);
        due("at tide 10001", y.on(3, 0), 18);
        due("at tide 10002", y.on(4, 0), 50);
    }

    private static void told() {
        by(10, "What 0 TIDE, 1 KEEP, 2 PASS, 3 ALL (bits), 4 HELD, 5 which are OUT (bits), 6 FEW (bits), "
            + "10 and k the k-th of LESSONS (-5: none).");
        UrchinSchool x = plain(6);
        int[] first = {0, 4, 6, 0, 0, 0, 0, NONE, NONE, NONE, NOTHING, NOTHING, NOTHING, NOTHING, NONE};
        for (int what = 0; what < first.length; what++) {
            due("at first, told(" + what + ")", x.told(what), first[what]);
        }
        for (int i = 0; i < 6; i++) {
            x.learn(i, 255);
        }
        x.lesson(0, 0);
        x.lesson(3, 7);
        write(x, "keep 99;pass 0");
        int[] most = {0, 99, 0, 255, 48, 0, 1, NONE, NONE, NONE, 0, NOTHING, NOTHING, 7, NONE};
        for (int what = 0; what < most.length; what++) {
            due("at the most, told(" + what + ")", x.told(what), most[what]);
        }
        for (int i = 0; i < 6; i++) {
            x.beach(i, true);
        }
        until(x, 9999);
        int[] out = {9999, 99, 0, 0, 0, 63, 0, NONE, NONE, NONE, 0, NOTHING, NOTHING, 7, NONE};
        for (int what = 0; what < out.length; what++) {
            due("all out, told(" + what + ")", x.told(what), out[what]);
        }
        by(10, "NONE.");
        for (int what : new int[] {-1, -5, 7, 8, 9, 14, 15, 256, LOW, LOW + 10, HIGH}) {
            due("what " + what, x.told(what), NONE);
        }
    }

    private static void all() {
        by(10, "ALL: the FACTS that one not OUT KNOWS.");
        UrchinSchool x = plain(6);
        due("none", x.told(3), 0);
        x.learn(0, 129);
        x.learn(5, 128 + 64);
        due("of any", x.told(3), 193);
        x.beach(0, true);
        due("of those not out", x.told(3), 192);
        x.beach(5, true);
        due("of none", x.told(3), 0);
        x.beach(0, false);
        due("again", x.told(3), 129);
        by(10, "HELD: how many FACTS each not OUT KNOWS, together.");
        due("of one", x.told(4), 2);
        x.beach(5, false);
        due("one fact twice", x.told(4), 4);
        x.learn(2, 255);
        due("of three", x.told(4), 12);
        x.beach(2, true);
        due("not of one out", x.told(4), 4);
        due("of no urchins", new UrchinSchool().told(4), 0);
    }

    private static void few() {
        by(10, "FEW: the set with the fewest of those not OUT that together KNOW ALL (bits; of several the least as bits).");
        few("no urchins", 0);
        few("none knows", 0, 0, 0, 0);
        few("one", 1, 8);
        few("the last alone", 32, 0, 0, 0, 0, 0, 1);
        few("of all that know all the first", 1, 255, 255, 255, 255, 255, 255);
        few("each is needed", 63, 1, 2, 4, 8, 16, 32 + 64 + 128);
        few("two by bits: 3 ahead of 5, 6", 3, 1, 2, 2, 1);
        few("two by bits: 6 ahead of 9", 6, 1, 3, 12, 14, 8);
        few("fewer ahead of less", 32, 1, 2, 4, 8, 16, 31);
        few("two, though three are less as bits", 24, 3, 12, 48, 7, 56);
        few("one that knows nothing is not needed", 5, 1, 0, 2, 0);
        UrchinSchool x = plain(4);
        x.learn(0, 255);
        x.learn(1, 3);
        x.learn(3, 4);
        x.beach(0, true);
        due("not by one that is out", x.told(6), 10);
        x.beach(3, true);
        due("by one", x.told(6), 2);
        x.beach(1, true);
        due("by none", x.told(6), 0);
        x.beach(2, true);
        due("all are out", x.told(6), 0);
    }

    private static void few(String why, int want, int... knows) {
        UrchinSchool x = plain(knows.length);
        for (int i = 0; i < knows.length; i++) {
            x.learn(i, knows[i]);
        }
        due(why, x.told(6), want);
    }
}
