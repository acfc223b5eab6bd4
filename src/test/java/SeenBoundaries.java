/** Promises 16 to 20: what is seen, what one can have known, how firm one is, odds, means. */
final class SeenBoundaries extends Boundaries {
    static void run() {
        see();
        seen();
        seenFacts();
        seenIsFull();
        seeRefusals();
        knew();
        knewOfOne();
        knewByOthers();
        knewAnswers();
        firm();
        firmOfOne();
        firmAnswers();
        odds();
        oddsOfTides();
        oddsOfOut();
        oddsRefusals();
        mean();
        meanRefusals();
    }

    private static void knew(String when, UrchinSchool x, int urchin, int many, int least) {
        due(when + ": how many", x.knew(urchin, 0), many);
        due(when + ": the least", x.knew(urchin, 1), least);
    }

    private static void firm(String when, UrchinSchool x, int urchin, int many, int least) {
        due(when + ": how many", x.firm(urchin, 0), many);
        due(when + ": the least", x.firm(urchin, 1), least);
    }

    private static void fraction(String when, long above, long below, long wantAbove, long wantBelow) {
        due(when + ": above", above, wantAbove);
        due(when + ": below", below, wantBelow);
    }

    private static void odds(String when, UrchinSchool x, int fact, int n, int above, int below) {
        fraction(when, x.odds(fact, n, 0), x.odds(fact, n, 1), above, below);
    }

    private static void mean(String when, UrchinSchool x, int above, int below) {
        fraction(when, x.mean(0), x.mean(1), above, below);
    }

    private static void see() {
        by(16, "What is SEEN comes: how many there are (urchin -1: none then, 0, whatever the others are).");
        UrchinSchool x = plain(6);
        for (int i = 1; i <= 5; i++) {
            due("the next", x.see(i, 12, 7, true), i);
            due("how many", x.count(2), i);
        }
        due("none then, though full", x.see(-1, 0, 0, false), 0);
        due("how many", x.count(2), 0);
        knew("nothing is seen", x, 0, 256, 0);
        due("the first again", x.see(0, 0, 0, false), 1);
        due("the same once more", x.see(0, 0, 0, false), 2);
        for (int n : new int[] {-1, 13, LOW, HIGH}) {
            for (int fact : new int[] {-1, 8, LOW, HIGH}) {
                x.see(0, 0, 0, false);
                due("none then, whatever the others are", x.see(-1, n, fact, true), 0);
                due("how many", x.count(2), 0);
            }
        }
        due("none, and none again", x.see(-1, 0, 0, true), 0);
        due("without urchins", new UrchinSchool().see(-1, 0, 0, true), 0);
    }

    /** One that is taught fact 5 in the 12th tide from now, and in none of those ahead of it. */
    private static UrchinSchool taughtInTwelfth() {
        UrchinSchool x = plain(1);
        write(x, "keep 8;dull 3 !t=1");
        x.lesson(3, 5);
        return x;
    }

    private static void seen() {
        by(16, "SEEN told by hand: one of URCHINS, behind how many TIDES from now (0 .. 12), a FACT, "
            + "whether it KNOWS that; 5 at most.");
        UrchinSchool x = taughtInTwelfth();
        due("behind 12", x.see(0, 12, 5, true), 1);
        knew("behind 12 it knows it", x, 0, 256, 0);
        due("behind 11", x.see(0, 11, 5, false), 2);
        knew("behind 11 not, if not now", x, 0, 128, 0);
        due("behind 0", x.see(0, 0, 5, true), 3);
        knew("behind 0: otherwise than behind 11", x, 0, 0, NOTHING);
        x.see(-1, 0, 0, false);
        x.see(0, 12, 5, false);
        knew("behind 12 it does", x, 0, 0, NOTHING);
        UrchinSchool y = plain(6);
        y.see(5, 0, 7, true);
        knew("the last of urchins, behind 0, the last fact", y, 5, 128, 128);
        knew("of another", y, 0, 0, NOTHING);
        y.learn(5, 128);
        knew("of another", y, 0, 256, 0);
        y.see(0, 12, 0, true);
        knew("the first of urchins, behind 12, the first fact", y, 0, 128, 1);
    }

    private static void seenFacts() {
        by(16, "whether it KNOWS that;");
        for (int fact = 0; fact < 8; fact++) {
            UrchinSchool x = plain(1);
            x.see(0, 0, fact, true);
            knew("it knows " + fact, x, 0, 128, 1 << fact);
            x.see(-1, 0, 0, true);
            x.see(0, 0, fact, false);
            knew("it does not know " + fact, x, 0, 128, 0);
            x.see(0, 0, (fact + 1) % 8, true);
            knew("but the next", x, 0, 64, 1 << (fact + 1) % 8);
            x.see(0, 1, fact, false);
            knew("nor behind 1", x, 0, 64, 1 << (fact + 1) % 8);
        }
    }

    private static void seenIsFull() {
        by(16, "FULL: 5.");
        UrchinSchool x = plain(1);
        for (int fact = 3; fact < 8; fact++) {
            due("the next", x.see(0, 0, fact, true), fact - 2);
        }
        due("the sixth", x.see(0, 0, 3, false), FULL);
        due("again", x.see(0, 12, 7, true), FULL);
        due("how many", x.count(2), 5);
        knew("all five, and no sixth", x, 0, 8, 0xf8);
        UrchinSchool y = plain(1);
        for (int i = 0; i < 4; i++) {
            y.see(0, 0, 0, true);
        }
        y.see(0, 0, 0, false);
        knew("the fifth, too", y, 0, 0, NOTHING);
        y.see(-1, 0, 0, false);
        due("room again", y.see(0, 0, 0, true), 1);
    }

    private static void seeRefusals() {
        UrchinSchool x = plain(5);
        UrchinSchool full = plain(5);
        for (int i = 0; i < 5; i++) {
            full.see(i, 0, 0, false);
        }
        by(16, "NONE: urchin, fact;");
        for (int i : new int[] {-2, 5, 6, 256, LOW, HIGH}) {
            due("urchin " + i, x.see(i, 0, 0, true), NONE);
            due("urchin " + i + ", ahead of bad", x.see(i, 13, 0, true), NONE);
            due("urchin " + i + ", ahead of full", full.see(i, 0, 0, true), NONE);
        }
        for (int fact : new int[] {-1, 8, 9, 256, LOW, HIGH}) {
            due("fact " + fact, x.see(4, 0, fact, true), NONE);
            due("fact " + fact + ", ahead of bad", x.see(4, -1, fact, true), NONE);
            due("fact " + fact + ", ahead of full", full.see(4, 0, fact, true), NONE);
        }
        by(16, "BAD: n;");
        for (int n : new int[] {-1, 13, 60, 256, LOW, HIGH}) {
            due("n " + n, x.see(4, n, 7, false), BAD);
            due("n " + n + ", ahead of full", full.see(4, n, 7, false), BAD);
        }
        due("none came", x.count(2), 0);
        due("none came", full.count(2), 5);
    }

    private static void knew() {
        by(17, "KNEW of one: how many sets of FACTS (0 .. 255) there are by which, KNEW it just that now, "
            + "all of SEEN is so; the least (-5: none).");
        UrchinSchool x = plain(1);
        knew("nothing is seen", x, 0, 256, 0);
        write(x, "dull 9 c>0");
        x.lesson(0, 0);
        x.see(0, 1, 0, true);
        knew("the least set alone", x, 0, 1, 0);
        UrchinSchool y = plain(1);
        write(y, "dull 9 c<8");
        y.see(0, 1, 0, true);
        knew("the greatest set alone", y, 0, 1, 255);
        y.see(-1, 0, 0, true);
        y.see(0, 1, 0, false);
        knew("all but the greatest", y, 0, 255, 0);
        UrchinSchool z = plain(1);
        write(z, "keep 1");
        z.see(0, 1, 7, true);
        knew("no other fact has a less number", z, 0, 1, 128);
        z.see(-1, 0, 0, true);
        z.see(0, 1, 6, true);
        knew("one other may be behind it", z, 0, 2, 64);
        z.see(0, 12, 7, true);
        knew("no set", z, 0, 0, NOTHING);
    }

    private static void knewOfOne() {
        by(17, "KNEW it just that now,");
        UrchinSchool x = plain(2);
        x.learn(0, 255);
        x.see(0, 0, 3, false);
        knew("whatever it knows", x, 0, 128, 0);
        due("it still does", x.of(0, 2), 255);
        x.see(0, 0, 2, true);
        knew("two of now", x, 0, 64, 4);
        x.see(0, 5, 2, false);
        knew("two of now, one of then", x, 0, 0, NOTHING);
        UrchinSchool y = plain(1);
        write(y, "dull 9 f<8");
        y.beach(0, true);
        y.see(0, 12, 1, true);
        knew("one that is out forgets nothing", y, 0, 128, 2);
        y.beach(0, false);
        knew("one that is not forgets it", y, 0, 0, NOTHING);
    }

    private static void knewByOthers() {
        by(17, "all of SEEN is so;");
        UrchinSchool x = plain(3);
        write(x, "pass 3;keep 8");
        x.see(2, 2, 6, true);
        knew("passed on twice", x, 0, 128, 64);
        knew("passed on once", x, 1, 128, 64);
        x.see(2, 1, 6, false);
        knew("passed on twice, no sooner", x, 0, 128, 64);
        knew("from the next it were sooner", x, 1, 0, NOTHING);
        knew("nor of itself", x, 2, 0, NOTHING);
        x.learn(0, 64);
        knew("whatever it knows", x, 0, 128, 64);
        knew("without the one between", x, 1, 128, 0);
        x.beach(1, true);
        knew("not over one that is out", x, 0, 0, NOTHING);
    }

    private static void knewAnswers() {
        by(17, "KNEW: what 0 how many, 1 the least; -5.");
        UrchinSchool x = plain(6);
        due("how many", x.knew(5, 0), 256);
        due("the least", x.knew(5, 1), 0);
        x.see(5, 0, 7, true);
        due("how many", x.knew(5, 0), 128);
        due("the least", x.knew(5, 1), 128);
        x.see(5, 0, 7, false);
        due("the least of none", x.knew(5, 1), NOTHING);
        by(17, "NONE.");
        for (int i : new int[] {-1, 6, 256, LOW, HIGH}) {
            due("urchin " + i, x.knew(i, 0), NONE);
            due("urchin " + i, x.knew(i, 1), NONE);
        }
        due("urchin 0 of none", new UrchinSchool().knew(0, 0), NONE);
        due("urchin 3 of three", plain(3).knew(3, 0), NONE);
        for (int what : new int[] {-1, 2, 10, 256, LOW, HIGH}) {
            due("what " + what, x.knew(0, what), NONE);
        }
    }

    private static void firm() {
        by(18, "FIRM of one: how many numbers v (0 .. 9) likewise; the least (-5: none).");
        UrchinSchool x = with(1, 4);
        x.learn(0, 1);
        firm("nothing is seen", x, 0, 10, 0);
        x.see(0, 1, 0, true);
        firm("by any", x, 0, 10, 0);
        write(x, "dull 12 f<8");
        firm("by 9 alone", x, 0, 1, 9);
        write(x, "dull 11 f<8");
        firm("by 8, 9", x, 0, 2, 8);
        write(x, "dull 13 f<8");
        firm("by none", x, 0, 0, NOTHING);
        x.see(-1, 0, 0, true);
        x.see(0, 12, 0, false);
        firm("by all", x, 0, 10, 0);
        write(x, "dull 3 f<8");
        firm("by none", x, 0, 0, NOTHING);
        UrchinSchool y = with(0, 9);
        write(y, "dull 9 v>0");
        y.learn(0, 128);
        y.see(0, 1, 7, true);
        firm("by 0 alone", y, 0, 1, 0);
        y.see(-1, 0, 0, true);
        y.see(0, 1, 7, false);
        firm("by all but 0", y, 0, 9, 1);
        write(y, "dull 9 v=9");
        firm("by 9 alone", y, 0, 1, 9);
        write(y, "dull 9 v>9|v=10");
        firm("by none above 9", y, 0, 0, NOTHING);
    }

    private static void firmOfOne() {
        by(18, "likewise;");
        UrchinSchool x = with(1, 9, 1, 0, 5, 7);
        write(x, "pass 8;dull 3 f<8");
        x.learn(0, 1);
        x.see(1, 1, 0, true);
        firm("what others have been seen to know", x, 0, 0, NOTHING);
        firm("by how it would hear", x, 1, 2, 8);
        firm("what others have been seen to know", x, 2, 0, NOTHING);
        due("v is as it was", x.of(1, 1), 0);
        x.see(2, 2, 0, true);
        firm("by how it would hear, and be heard", x, 1, 0, NOTHING);
        UrchinSchool y = with(4, 0, 2, 9, 3, 9, 6, 9, 0, 9, 5, 9);
        write(y, "dull 9 f<8");
        for (int i = 0; i < 6; i++) {
            y.learn(i, 4);
            y.see(-1, 0, 0, true);
            y.see(i, 1, 2, true);
            int many = new int[] {4, 0, 0, 0, 0, 7}[i];
            firm("by kind " + y.of(i, 0), y, i, many, many == 0 ? NOTHING : 10 - many);
        }
    }

    private static void firmAnswers() {
        by(18, "FIRM: what 0 how many, 1 the least; -5.");
        UrchinSchool x = plain(6);
        due("how many", x.firm(5, 0), 10);
        due("the least", x.firm(5, 1), 0);
        x.see(5, 0, 7, true);
        due("the least of none", x.firm(5, 1), NOTHING);
        x.learn(5, 128);
        due("how many", x.firm(5, 0), 10);
        by(18, "NONE.");
        for (int i : new int[] {-1, 6, 256, LOW, HIGH}) {
            due("urchin " + i, x.firm(i, 0), NONE);
            due("urchin " + i, x.firm(i, 1), NONE);
        }
        due("urchin 0 of none", new UrchinSchool().firm(0, 0), NONE);
        due("urchin 3 of three", plain(3).firm(3, 0), NONE);
        for (int what : new int[] {-1, 2, 10, 256, LOW, HIGH}) {
            due("what " + what, x.firm(0, what), NONE);
        }
    }

    private static void odds() {
        by(19, "ODDS of a FACT and n TIDES (0 .. 60): if one not OUT, each alike likely, KNOWS nothing now: "
            + "how likely the FACT is of ALL behind n: a fraction in lowest terms (NO: all are OUT).");
        UrchinSchool x = plain(6);
        odds("known by none", x, 0, 0, 0, 1);
        odds("known by none", x, 7, 60, 0, 1);
        x.learn(5, 129);
        odds("known by one of six", x, 0, 0, 5, 6);
        odds("known by one of six", x, 7, 60, 5, 6);
        odds("another fact", x, 1, 0, 0, 1);
        x.learn(0, 1);
        odds("known by two of six", x, 0, 0, 1, 1);
        for (int i = 0; i < 6; i++) {
            x.learn(i, 128);
        }
        odds("known by six of six", x, 7, 9, 1, 1);
        UrchinSchool y = plain(1);
        y.learn(0, 255);
        odds("one of one forgets all", y, 3, 0, 0, 1);
        y.lesson(0, 3);
        odds("one of one is taught it again", y, 3, 1, 1, 1);
        due("nothing changed", y.of(0, 2), 255);
        for (int many = 2; many <= 6; many++) {
            UrchinSchool z = plain(many);
            write(z, "pass 3;dull 9 f=0&(p=0|c=0)");
            z.learn(0, 1);
            z.learn(1, 2);
            int[] want = {0, 1, 1, 3, 2};
            odds("neither 0 nor 1 of " + many, z, 0, 1, want[many - 2], new int[] {1, 3, 2, 5, 3}[many - 2]);
        }
    }

    private static void oddsOfTides() {
        by(19, "behind n:");
        UrchinSchool x = TideBoundaries.forgets(2, 9);
        odds("behind 0", x, 7, 0, 1, 2);
        odds("behind 59", x, 7, 59, 1, 2);
        odds("behind 60", x, 7, 60, 0, 1);
        odds("of what is taught in the third tide", x, 1, 2, 0, 1);
        odds("of what is taught in the third tide", x, 1, 3, 1, 1);
    }

    private static void oddsOfOut() {
        by(19, "if one not OUT, each alike likely, KNOWS nothing now:");
        UrchinSchool x = plain(6);
        x.learn(2, 4);
        x.beach(0, true);
        odds("one of five", x, 2, 0, 4, 5);
        x.beach(5, true);
        odds("one of four", x, 2, 0, 3, 4);
        x.beach(4, true);
        odds("one of three", x, 2, 0, 2, 3);
        x.beach(3, true);
        odds("one of two", x, 2, 0, 1, 2);
        x.beach(1, true);
        odds("one of one", x, 2, 0, 0, 1);
        x.learn(1, 4);
        odds("one that is out does not count", x, 2, 0, 0, 1);
        x.beach(1, false);
        odds("two of two", x, 2, 0, 1, 1);
    }

    private static void oddsRefusals() {
        by(19, "ODDS. NO: fact, n, part, all are OUT.");
        UrchinSchool x = plain(2);
        for (int part = 0; part < 2; part++) {
            for (int fact : new int[] {-1, 8, 256, LOW, HIGH}) {
                due("fact " + fact, x.odds(fact, 0, part), NO);
            }
            for (int n : new int[] {-1, 61, 256, LOW, HIGH}) {
                due("n " + n, x.odds(7, n, part), NO);
            }
        }
        for (int part : new int[] {-1, 2, 256, LOW, HIGH}) {
            due("part " + part, x.odds(7, 60, part), NO);
        }
        x.learn(0, 1);
        x.beach(0, true);
        odds("one is not out", x, 0, 0, 0, 1);
        x.beach(1, true);
        due("all are out", x.odds(0, 0, 0), NO);
        due("all are out", x.odds(0, 60, 1), NO);
        due("no urchins", new UrchinSchool().odds(0, 0, 0), NO);
        due("no urchins", new UrchinSchool().odds(0, 0, 1), NO);
    }

    private static void mean() {
        by(20, "MEAN: HELD, by how many are not OUT: a fraction in lowest terms (NO: there are none).");
        UrchinSchool x = plain(6);
        mean("0 by 6", x, 0, 1);
        int[][] rows = {{1, 1, 6}, {3, 1, 3}, {7, 1, 2}, {15, 2, 3}, {31, 5, 6}, {63, 1, 1}, {127, 7, 6}, {255, 4, 3}};
        for (int[] row : rows) {
            x.learn(3, row[0]);
            mean("held by one of six: " + row[0], x, row[1], row[2]);
        }
        for (int i = 0; i < 6; i++) {
            x.learn(i, 255);
        }
        mean("48 by 6", x, 8, 1);
        x.learn(0, 1);
        mean("41 by 6", x, 41, 6);
        x.beach(0, true);
        mean("40 by 5", x, 8, 1);
        x.beach(0, false);
        x.beach(5, true);
        mean("33 by 5", x, 33, 5);
        x.learn(1, 7);
        mean("28 by 5", x, 28, 5);
        x.beach(4, true);
        mean("20 by 4", x, 5, 1);
        x.learn(2, 3);
        mean("14 by 4", x, 7, 2);
        UrchinSchool y = plain(1);
        mean("0 by 1", y, 0, 1);
        y.learn(0, 255);
        mean("8 by 1", y, 8, 1);
    }

    private static void meanRefusals() {
        by(20, "MEAN. NO: part, there are none.");
        UrchinSchool x = plain(2);
        for (int part : new int[] {-1, 2, 256, LOW, HIGH}) {
            due("part " + part, x.mean(part), NO);
        }
        x.learn(0, 255);
        x.beach(0, true);
        mean("one is not out", x, 0, 1);
        x.beach(1, true);
        due("all are out", x.mean(0), NO);
        due("all are out", x.mean(1), NO);
        due("no urchins", new UrchinSchool().mean(0), NO);
        due("no urchins", new UrchinSchool().mean(1), NO);
    }
}
