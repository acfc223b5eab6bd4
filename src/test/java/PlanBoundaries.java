/** Promises 21 to 24: plans row by row, what they come to, books, what is looked at. */
final class PlanBoundaries extends Boundaries {
    static void run() {
        plan();
        planRows();
        planRefusals();
        planIsFull();
        done();
        doneInOrder();
        doneBeyond();
        doneRefusals();
        book();
        bookRows();
        bookRefusals();
        looked();
        lookedNow();
    }

    private static void done(String when, UrchinSchool x, int all, int held) {
        due(when + ": all", x.done(0), all);
        due(when + ": held", x.done(1), held);
    }

    private static void plan() {
        by(21, "A row comes to the PLAN: how many there are (what -1: none then, 0, whatever the other is).");
        UrchinSchool x = plain(1);
        for (int i = 1; i <= 8; i++) {
            due("the next", x.plan(1, 0), i);
            due("how many", x.count(3), i);
        }
        due("none then, though full", x.plan(-1, 0), 0);
        due("how many", x.count(3), 0);
        due("the first again", x.plan(2, 0), 1);
        for (int n : new int[] {-1, 0, 1, 8, 18, LOW, HIGH}) {
            x.plan(2, 0);
            due("none then, whatever the other is", x.plan(-1, n), 0);
            due("how many", x.count(3), 0);
        }
        due("none, and none again", x.plan(-1, 0), 0);
        due("without urchins", new UrchinSchool().plan(-1, 0), 0);
        x.learn(0, 3);
        done("no row is left", x, 3, 2);
    }

    private static void planRows() {
        by(21, "PLAN told by hand: rows of what 0 a TIDE goes (the other not looked at), 1 one is OUT, 2 one is not, "
            + "3 one KNOWS a FACT, too (told as 10 times the one and the FACT); 8 at most.");
        UrchinSchool x = new UrchinSchool();
        int rows = 0;
        for (int n : new int[] {-1, 0, 6, 8, 99, 256, LOW, HIGH}) {
            rows++;
            due("what 0, other " + n, x.plan(0, n), rows);
        }
        done("without urchins", x, 0, 0);
        UrchinSchool y = plain(6);
        y.learn(0, 255);
        due("the last of urchins, the last fact", y.plan(3, 57), 1);
        due("the first of urchins is out", y.plan(1, 0), 2);
        done("what one alone knows", y, 128, 1);
        due("the last of urchins is out", y.plan(1, 5), 3);
        done("both are out", y, 0, 0);
        due("the first of urchins is not", y.plan(2, 0), 4);
        due("the first of urchins, the first fact", y.plan(3, 0), 5);
        done("one is not", y, 255, 8);
        due("the last of urchins is not", y.plan(2, 5), 6);
        done("both are not", y, 255, 9);
        due("the last of urchins, the first fact", y.plan(3, 50), 7);
        done("both are not", y, 255, 10);
        due("it is there by now", y.plan(3, 50), 8);
        done("both are not", y, 255, 10);
        due("nothing changed", y.told(3) * 100 + y.told(4) * 10 + y.told(5), 25580);
        by(21, "3 one KNOWS a FACT, too (told as 10 times the one and the FACT);");
        UrchinSchool z = plain(6);
        for (int i = 0; i < 6; i++) {
            for (int fact = 0; fact < 8; fact++) {
                z.plan(-1, 0);
                z.plan(3, 10 * i + fact);
                done("fact " + fact + " to " + i, z, 1 << fact, 1);
                z.plan(1, i);
                done("to one that is out by now", z, 0, 0);
            }
        }
    }

    private static void planRefusals() {
        UrchinSchool x = plain(4);
        UrchinSchool full = plain(4);
        for (int i = 0; i < 8; i++) {
            full.plan(0, 0);
        }
        by(21, "NONE: what, URCHIN (by 1, 2; by 3), FACT (by 3);");
        for (int what : new int[] {-2, 4, 5, 10, 256, LOW, HIGH}) {
            due("what " + what, x.plan(what, 0), NONE);
            due("what " + what + ", ahead of full", full.plan(what, 0), NONE);
        }
        for (int what = 1; what < 3; what++) {
            for (int i : new int[] {-1, 4, 5, 6, 10, 32, 256, LOW, HIGH}) {
                due("what " + what + ", urchin " + i, x.plan(what, i), NONE);
                due("what " + what + ", urchin " + i + ", ahead of full", full.plan(what, i), NONE);
            }
            due("what " + what + ", no urchins", new UrchinSchool().plan(what, 0), NONE);
        }
        for (int n : new int[] {40, 47, 50, 67, 100, 320, -1, -7, -8, -9, -10, -100, LOW, LOW + 2, HIGH, HIGH - 7}) {
            due("urchin of " + n, x.plan(3, n), NONE);
            due("urchin of " + n + ", ahead of full", full.plan(3, n), NONE);
        }
        due("urchin of 0, no urchins", new UrchinSchool().plan(3, 0), NONE);
        for (int n : new int[] {8, 9, 18, 19, 28, 29, 38, 39}) {
            due("fact of " + n, x.plan(3, n), NONE);
            due("fact of " + n + ", ahead of full", full.plan(3, n), NONE);
        }
        due("none came", x.count(3), 0);
        due("none came", full.count(3), 8);
    }

    private static void planIsFull() {
        by(21, "FULL: 8.");
        UrchinSchool x = plain(2);
        for (int fact = 0; fact < 8; fact++) {
            x.plan(3, 10 + fact);
        }
        due("the ninth: a tide", x.plan(0, 0), FULL);
        due("the ninth: out", x.plan(1, 1), FULL);
        due("the ninth: not out", x.plan(2, 0), FULL);
        due("the ninth: a fact", x.plan(3, 0), FULL);
        due("how many", x.count(3), 8);
        done("all eight, and no ninth", x, 255, 8);
        due("none then", x.plan(-1, 0), 0);
        due("room again", x.plan(3, 17), 1);
        done("the one", x, 128, 1);
    }

    private static void done() {
        by(22, "DONE: ALL; HELD.");
        UrchinSchool x = plain(3);
        done("no row, none held", x, 0, 0);
        x.learn(0, 7);
        x.learn(1, 131);
        x.learn(2, 255);
        x.beach(2, true);
        done("no row: as now", x, 135, 6);
        x.plan(1, 2);
        done("out by now", x, 135, 6);
        x.plan(2, 1);
        done("not out by now", x, 135, 6);
        x.plan(1, 0);
        done("one out", x, 131, 3);
        x.plan(1, 1);
        done("all out", x, 0, 0);
        x.plan(3, 7);
        x.plan(2, 0);
        done("told a fact while out", x, 135, 4);
        x.plan(0, 0);
        due("three are forgotten by none, four are kept", x.done(1), 4);
        x.plan(2, 2);
        done("three, 255 and not a tide behind", x, 255, 12);
        due("eight rows", x.count(3), 8);
    }

    private static void doneInOrder() {
        by(22, "rows of what 0 a TIDE goes");
        UrchinSchool x = plain(1);
        write(x, "keep 8");
        for (int k = 0; k < 4; k++) {
            x.lesson(k, k);
        }
        for (int rows = 1; rows <= 8; rows++) {
            x.plan(0, LOW);
            done("tides " + rows, x, rows > 4 ? 15 : (1 << rows) - 1, Math.min(4, rows));
        }
        due("nothing changed", x.told(0) + x.told(3), 0);
        x.plan(-1, 0);
        x.plan(1, 0);
        x.plan(0, 0);
        x.plan(2, 0);
        x.plan(0, 0);
        done("out in the first tide alone", x, 2, 1);
        x.plan(-1, 0);
        x.plan(0, 0);
        x.plan(1, 0);
        x.plan(0, 0);
        x.plan(2, 0);
        x.plan(0, 0);
        done("out in the second tide alone", x, 5, 2);
        UrchinSchool y = plain(2);
        write(y, "pass 3");
        y.plan(0, 0);
        y.plan(3, 16);
        done("told behind the tide", y, 64, 1);
        y.plan(0, 0);
        done("told ahead of the tide", y, 64, 2);
    }

    private static void doneBeyond() {
        by(22, "goes on from how all is (TIDE beyond 9999, too), and changes nothing.");
        UrchinSchool x = plain(1);
        until(x, 9999);
        x.learn(0, 0);
        x.lesson(3, 6);
        x.lesson(0, 7);
        for (int i = 0; i < 8; i++) {
            x.plan(0, 0);
            due("from tide 9999, " + i, x.done(0), i == 0 ? 64 : 192);
        }
        due("tide", x.told(0), 9999);
        due("knows", x.of(0, 2), 0);
        due("rows", x.count(3), 8);
    }

    private static void doneRefusals() {
        by(22, "DONE: what 0 ALL, 1 HELD.");
        UrchinSchool x = plain(1);
        x.plan(3, 7);
        due("what 0", x.done(0), 128);
        due("what 1", x.done(1), 1);
        by(22, "NONE.");
        for (int what : new int[] {-1, 2, 3, 10, 256, LOW, HIGH}) {
            due("what " + what, x.done(what), NONE);
            due("what " + what + ", a new object", new UrchinSchool().done(what), NONE);
        }
    }

    private static void book() {
        by(23, "A row comes to BOOK: how many there are (urchin -1: none then, 0, whatever the other is).");
        UrchinSchool x = plain(1);
        for (int i = 1; i <= 8; i++) {
            due("the next", x.book(0, 1), i);
            due("how many", x.count(4), i);
        }
        due("none then, though full", x.book(-1, 0), 0);
        due("how many", x.count(4), 0);
        due("no row is left", x.looked(), NOTHING);
        due("the first again", x.book(0, 0), 1);
        for (int facts : new int[] {-1, 0, 255, 256, LOW, HIGH}) {
            x.book(0, 0);
            due("none then, whatever the other is", x.book(-1, facts), 0);
            due("how many", x.count(4), 0);
        }
        due("none, and none again", x.book(-1, 0), 0);
        due("without urchins", new UrchinSchool().book(-1, 0), 0);
    }

    private static void bookRows() {
        by(23, "BOOK told by hand: URCHINS and what each KNOWS; 8 at most.");
        UrchinSchool x = plain(6);
        x.learn(5, 255);
        due("the first of urchins, no fact", x.book(0, 0), 1);
        due("the last of urchins, all facts", x.book(5, 255), 2);
        for (int i = 3; i <= 8; i++) {
            due("one again", x.book(0, 0), i);
        }
        due("all is so", x.looked(), NOTHING);
        by(23, "FULL: 8.");
        due("the ninth", x.book(0, 1), FULL);
        due("again", x.book(5, 255), FULL);
        due("how many", x.count(4), 8);
        due("no ninth", x.looked(), NOTHING);
        x.book(-1, 0);
        due("room again", x.book(0, 1), 1);
    }

    private static void bookRefusals() {
        UrchinSchool x = plain(5);
        UrchinSchool full = plain(5);
        for (int i = 0; i < 8; i++) {
            full.book(0, 0);
        }
        by(23, "NONE;");
        for (int i : new int[] {-2, 5, 6, 256, LOW, HIGH}) {
            due("urchin " + i, x.book(i, 0), NONE);
            due("urchin " + i + ", ahead of bad", x.book(i, 256), NONE);
            due("urchin " + i + ", ahead of full", full.book(i, 0), NONE);
        }
        due("urchin 0 of none", new UrchinSchool().book(0, 0), NONE);
        by(23, "BAD: facts;");
        for (int facts : new int[] {-1, 256, 257, LOW, HIGH}) {
            due("facts " + facts, x.book(4, facts), BAD);
            due("facts " + facts + ", ahead of full", full.book(4, facts), BAD);
        }
        due("none came", x.count(4), 0);
        due("none came", full.count(4), 8);
    }

    private static void looked() {
        by(24, "LOOKED at: the first by which it is otherwise now (-5: none).");
        due("a new object", new UrchinSchool().looked(), NOTHING);
        for (int otherwise = 0; otherwise < 8; otherwise++) {
            UrchinSchool x = plain(6);
            for (int row = 0; row < 8; row++) {
                due("a row", x.book(row % 6, row == otherwise ? 1 : 0), row + 1);
            }
            due("otherwise by " + otherwise, x.looked(), otherwise);
        }
        UrchinSchool y = plain(2);
        y.learn(0, 255);
        y.book(0, 255);
        y.book(1, 1);
        y.book(0, 254);
        due("otherwise by two: the first", y.looked(), 1);
        y.learn(1, 1);
        due("otherwise by the last", y.looked(), 2);
        y.learn(0, 254);
        due("one told twice: otherwise by the first", y.looked(), 0);
        by(24, "LOOKED at; -5.");
        y.book(-1, 0);
        due("no row", y.looked(), NOTHING);
        y.book(0, 254);
        due("a row that is so", y.looked(), NOTHING);
        y.book(0, 255);
        due("fewer than told", y.looked(), 1);
    }

    private static void lookedNow() {
        by(24, "otherwise now");
        UrchinSchool x = plain(2);
        x.learn(0, 0x1f);
        x.book(1, 0);
        x.book(0, 0x1f);
        due("as told", x.looked(), NOTHING);
        x.pass(1);
        due("behind a tide", x.looked(), 1);
        x.learn(0, 0x1f);
        due("as told again", x.looked(), NOTHING);
        x.beach(0, true);
        due("one that is out", x.looked(), NOTHING);
        x.learn(0, 0x1e);
        due("one that is out", x.looked(), 1);
        x.learn(1, 64);
        due("the one told ahead", x.looked(), 0);
    }
}
