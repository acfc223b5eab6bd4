/** Promises 11 to 15: tides that go, tides to come, which facts to teach, whom to tell. */
final class TideBoundaries extends Boundaries {
    static void run() {
        passes();
        passRefusals();
        next();
        aheadOfIt();
        heedOfEach();
        notOut();
        kept();
        taught();
        passedOn();
        passedByHeed();
        keep();
        oneMore();
        on();
        onRefusals();
        howAllIs();
        beyond();
        lasts();
        lastsLongest();
        teach();
        teachFirst();
        teachInPlace();
        tell();
        tellGreatest();
        askedChangesNothing();
    }

    private static void knows(String when, UrchinSchool x, int... want) {
        for (int i = 0; i < want.length; i++) {
            due(when + " " + i + " knows", x.of(i, 2), want[i]);
        }
    }

    private static void learn(UrchinSchool x, int... facts) {
        for (int i = 0; i < facts.length; i++) {
            x.learn(i, facts[i]);
        }
    }

    private static void passes() {
        by(11, "n TIDES (0 .. 60) go: TIDE.");
        UrchinSchool x = plain(1);
        x.learn(0, 1);
        write(x, "dull 9 p=0");
        due("pass(0)", x.pass(0), 0);
        due("none went", x.of(0, 2), 1);
        due("pass(1)", x.pass(1), 1);
        due("one went", x.of(0, 2), 0);
        due("pass(60)", x.pass(60), 61);
        due("pass(59)", x.pass(59), 120);
        due("without urchins", new UrchinSchool().pass(60), 60);
    }

    private static void passRefusals() {
        by(11, "BAD;");
        UrchinSchool x = new UrchinSchool();
        for (int n : new int[] {-1, 61, 256, LOW, HIGH}) {
            due("n " + n, x.pass(n), BAD);
        }
        due("no tide went", x.told(0), 0);
        by(11, "STATE: it would be above 9999.");
        UrchinSchool y = plain(1);
        until(y, 9940);
        due("60 from 9940", y.pass(60), STATE);
        due("not changed", y.told(0), 9940);
        due("59 from 9940", y.pass(59), 9999);
        due("0 from 9999", y.pass(0), 9999);
        for (int n : new int[] {1, 2, 60}) {
            due(n + " from 9999", y.pass(n), STATE);
        }
        for (int n : new int[] {-1, 61, LOW, HIGH}) {
            due("bad ahead of state: " + n, y.pass(n), BAD);
        }
        due("not changed", y.told(0), 9999);
        UrchinSchool z = new UrchinSchool();
        until(z, 9939);
        due("60 from 9939", z.pass(60), 9999);
    }

    private static void next() {
        by(11, "NEXT to one are those whose number is 1 less or 1 more.");
        UrchinSchool x = plain(6);
        write(x, "pass 3;keep 8");
        learn(x, 1, 0, 0, 0, 0, 2);
        for (int tide = 1; tide <= 5; tide++) {
            x.pass(1);
            for (int i = 0; i < 6; i++) {
                due(i + " behind " + tide, x.of(i, 2), (i <= tide ? 1 : 0) | (i >= 5 - tide ? 2 : 0));
            }
        }
        UrchinSchool y = plain(6);
        write(y, "pass 3;keep 8");
        learn(y, 0, 0, 4, 0, 0, 0);
        y.pass(1);
        knows("both sides:", y, 0, 4, 4, 4, 0, 0);
        UrchinSchool z = plain(3);
        write(z, "pass 3");
        learn(z, 1, 0, 128);
        z.beach(1, true);
        z.pass(9);
        knows("not over one that is out:", z, 1, 0, 128);
        UrchinSchool w = plain(1);
        write(w, "pass 0");
        w.learn(0, 1);
        w.pass(9);
        due("none next to one alone", w.told(3), 1);
    }

    private static void aheadOfIt() {
        by(11, "A TIDE goes, by how all is ahead of it,");
        UrchinSchool x = with(3, 0, 3, 0, 3, 0);
        write(x, "keep 8;pass 1");
        x.lesson(0, 7);
        learn(x, 7, 3, 0);
        x.pass(1);
        knows("by how many they knew ahead of it", x, 7, 128 + 7, 128 + 3);
        UrchinSchool y = plain(1);
        write(y, "dull 4 t=0&f=0;dull 4 t=1&f=1");
        y.learn(0, 7);
        y.pass(1);
        due("by the tide ahead of it", y.of(0, 2), 6);
        y.pass(1);
        due("by the tide ahead of it", y.of(0, 2), 4);
        UrchinSchool z = plain(2);
        write(z, "pass 3;dull 4 p=0");
        learn(z, 1, 2);
        z.pass(1);
        knows("what is forgotten in it is passed on", z, 0, 3);
        UrchinSchool w = plain(2);
        write(w, "pass 3;keep 1");
        learn(w, 2, 1);
        w.pass(1);
        knows("they pass on to one another", w, 1, 1);
    }

    private static void heedOfEach() {
        by(11, "whose HEED is 0 or more;");
        for (int i = 0; i < 6; i++) {
            for (int fact = 0; fact < 9; fact++) {
                UrchinSchool x = plain(6);
                write(x, "keep 8;pass 99;dull 4 p=" + i);
                for (int other = 0; other < 6; other++) {
                    x.learn(other, 255 >> (other + fact) % 9);
                }
                x.pass(1);
                for (int other = 0; other < 6; other++) {
                    due("of " + other, x.of(other, 2), other == i ? 0 : 255 >> (other + fact) % 9);
                }
            }
        }
        for (int many = 0; many < 9; many++) {
            UrchinSchool x = plain(6);
            write(x, "keep 8;dull 4 c=" + many);
            for (int other = 0; other < 6; other++) {
                x.learn(other, 255 >> (8 - (other + many) % 9));
            }
            x.pass(1);
            for (int other = 0; other < 6; other++) {
                int knew = (other + many) % 9;
                due("of " + knew + ", not of " + many, x.of(other, 2), knew == many ? 0 : 255 >> (8 - knew));
            }
        }
        UrchinSchool y = with(4, 1, 0, 0);
        write(y, "dull 9 f=0&t=1&p=0");
        y.lesson(2, 1);
        learn(y, 1, 1);
        due("a monitor's once, where it was twice ten tides ahead", y.on(11, 10), 2);
        y.pass(11);
        knows("a monitor's once, where it was twice ten tides ahead:", y, 2, 3);
    }

    private static void notOut() {
        by(11, "for each that is not OUT:");
        UrchinSchool x = plain(3);
        write(x, "pass 0;keep 2;dull 90 f<4");
        x.lesson(0, 7);
        learn(x, 0x7f, 0x7f, 0x80);
        x.beach(1, true);
        x.pass(1);
        knows("one that is out forgets, learns and hears nothing:", x, 0x30, 0x7f, 0x80);
        x.pass(60);
        due("behind 61", x.of(1, 2), 0x7f);
        x.beach(1, false);
        x.pass(1);
        due("when it is not, by then", x.of(1, 2), 0x30);
        UrchinSchool y = plain(2);
        learn(y, 255, 255);
        y.beach(0, true);
        y.beach(1, true);
        due("all out", y.pass(60), 60);
        knows("all out:", y, 255, 255);
    }

    private static void kept() {
        by(11, "it KNOWS those FACTS it KNEW whose HEED is 0 or more;");
        UrchinSchool x = plain(1);
        write(x, "keep 8;dull 3 f=0;dull 4 f=1;dull 2 f=2;dull 99 f=7");
        x.learn(0, 255);
        x.pass(1);
        due("0 keeps, -1 forgets", x.of(0, 2), 255 - 2 - 128);
        x.learn(0, 0);
        x.pass(4);
        due("what it did not know", x.of(0, 2), 0);
        UrchinSchool y = with(2, 0, 4, 0, 5, 1, 3, 0, 6, 9, 1, 1);
        write(y, "keep 8;pass 99;dull 5 f=0;dull 4 f=1;dull 3 f=2");
        learn(y, 7, 7, 7, 7, 7, 7);
        y.row(4, 2, 6);
        y.row(4, 1, 9);
        y.row(4, 0, 9);
        y.pass(1);
        knows("by kind", y, 6, 4, 7, 0, 3, 6);
    }

    private static void taught() {
        by(11, "the LESSON of the TIDE, if there is one and its HEED is above 0;");
        UrchinSchool x = plain(1);
        write(x, "keep 8;dull 3 f=0;dull 2 f=1;dull 4 f=2;loud 9 f=7");
        for (int k = 0; k < 3; k++) {
            x.lesson(k, k);
        }
        x.pass(1);
        due("heed 0 is not taught", x.of(0, 2), 0);
        x.pass(1);
        due("heed 1 is", x.of(0, 2), 2);
        x.pass(1);
        due("heed -1 is not", x.of(0, 2), 2);
        x.pass(1);
        due("none is taught", x.of(0, 2), 2);
        x.learn(0, 1);
        x.pass(1);
        due("heed 0 keeps what it knew, taught or not", x.of(0, 2), 1);
        x.lesson(1, 7);
        x.pass(1);
        due("the last fact", x.of(0, 2), 129);
        UrchinSchool y = plain(1);
        write(y, "pass 99;keep 8");
        y.lesson(0, 0);
        y.pass(1);
        due("the first fact, whatever pass is", y.of(0, 2), 1);
        UrchinSchool z = with(4, 0, 2, 0, 6, 0);
        write(z, "pass 99;dull 2 f=0;dull 1 f=1");
        z.row(2, 1, 3);
        z.row(2, 0, 3);
        z.lesson(0, 0);
        z.lesson(1, 1);
        z.pass(1);
        knows("heeds 1, 0, 0:", z, 1, 0, 0);
        z.pass(1);
        knows("heeds 2, 1, 1:", z, 3, 2, 2);
    }

    private static void passedOn() {
        by(11, "those FACTS that one NEXT to it, not OUT, KNEW,");
        UrchinSchool x = plain(4);
        write(x, "pass 3;keep 8");
        learn(x, 0, 7, 0, 0x88);
        x.beach(1, true);
        x.pass(1);
        knows("not from one that is out:", x, 0, 7, 0x88, 0x88);
        x.beach(1, false);
        x.pass(1);
        knows("from it, when it is not:", x, 7, 0x8f, 0x8f, 0x88);
        UrchinSchool y = plain(3);
        write(y, "pass 3;keep 8");
        y.lesson(0, 6);
        y.beach(0, true);
        y.beach(2, true);
        y.learn(0, 1);
        y.learn(2, 2);
        y.pass(1);
        knows("both out:", y, 1, 64, 2);
        y.beach(2, false);
        y.pass(1);
        knows("one out:", y, 1, 66, 66);
        y.beach(0, false);
        y.pass(1);
        knows("none out:", y, 67, 67, 66);
    }

    private static void passedByHeed() {
        by(11, "whose HEED (its own) is PASS or more;");
        UrchinSchool x = with(0, 0, 1, 3, 0, 0, 1, 2);
        learn(x, 1, 2, 4, 0);
        x.pass(1);
        knows("6 without: heed 6 hears, 3 and 5 do not:", x, 1, 7, 4, 0);
        UrchinSchool y = plain(2);
        y.learn(0, 255);
        write(y, "keep 8;pass 0;dull 3 f=0;dull 4 f=1;loud 7 f=2");
        y.pass(1);
        knows("pass 0:", y, 253, 253);
        write(y, "keep 8;pass 10;loud 7 f=2;loud 6 f=3;loud 8 f=7");
        learn(y, 0, 255);
        y.pass(1);
        knows("pass 10 by heeds 10, 9, 11:", y, 4 + 128, 255);
        write(y, "keep 8;pass 99;loud 95 f=2;loud 96 f=3");
        learn(y, 0, 255);
        y.pass(1);
        knows("pass 99 by heeds 98, 99:", y, 8, 255);
        UrchinSchool z = with(4, 2, 0, 0);
        write(z, "keep 8;pass 6");
        learn(z, 1, 3);
        due("heed of what it knows", z.of(0, 10), 10);
        z.pass(1);
        knows("a monitor hears by its heed once:", z, 1, 3);
        write(z, "keep 8;pass 5");
        z.pass(1);
        knows("a monitor hears by its heed once:", z, 3, 3);
        UrchinSchool w = with(6, 0, 0, 0);
        write(w, "keep 8;pass 3");
        learn(w, 0, 0x3c);
        w.row(0, 1, 4);
        w.row(0, 2, 3);
        w.row(0, 3, 5);
        w.pass(1);
        knows("by its row at fact modulo 4:", w, 0x28, 0x3c);
    }

    private static void keep() {
        by(11, "of all these, if they are more than KEEP, those KEEP with the least numbers.");
        UrchinSchool x = plain(1);
        for (int facts : new int[] {0xf0, 0x0f, 0x99, 0x07, 0x80}) {
            x.learn(0, facts);
            x.pass(1);
            due("4 or fewer of 4", x.of(0, 2), facts);
        }
        x.learn(0, 0xf8);
        x.pass(1);
        due("5 of 4", x.of(0, 2), 0x78);
        x.learn(0, 255);
        x.pass(1);
        due("8 of 4", x.of(0, 2), 15);
        x.learn(0, 0xf0);
        x.lesson(0, 2);
        x.lesson(1, 2);
        x.lesson(2, 2);
        x.lesson(3, 2);
        x.pass(1);
        due("taught takes room", x.of(0, 2), 0x74);
        x.learn(0, 15);
        x.lesson(0, 7);
        x.lesson(1, 7);
        x.lesson(2, 7);
        x.lesson(3, 7);
        x.pass(1);
        due("what is taught has none", x.of(0, 2), 15);
        UrchinSchool y = plain(3);
        learn(y, 0x03, 0x30, 0x84);
        write(y, "pass 3;keep 3");
        y.lesson(0, 3);
        y.pass(1);
        knows("known, taught and heard alike:", y, 0x0b, 0x07, 0x1c);
        for (int keep = 0; keep < 4; keep++) {
            write(y, "keep " + new int[] {8, 9, 99, 0}[keep]);
            y.learn(0, 255);
            y.pass(1);
            due("keep " + y.told(1), y.of(0, 2), keep == 3 ? 0 : 255);
        }
        y.learn(1, 0);
        y.lesson(y.told(0) % 4, 0);
        y.pass(1);
        due("keep 0 is taught nothing", y.of(1, 2), 0);
        UrchinSchool z = plain(1);
        for (int keep = 1; keep < 5; keep++) {
            write(z, "keep " + new int[] {0, 1, 7, 3, 6}[keep]);
            z.learn(0, 255);
            z.pass(1);
            due("keep " + z.told(1), z.of(0, 2), new int[] {0, 1, 127, 7, 63}[keep]);
        }
    }

    private static void oneMore() {
        by(11, "TIDE is 1 more.");
        UrchinSchool x = plain(2);
        x.beach(0, true);
        for (int tide = 1; tide <= 41; tide++) {
            due("the next", x.pass(1), tide);
            due("tide", x.told(0), tide);
        }
    }

    private static void on() {
        by(12, "ON: what 0 ALL, 1 HELD, 10 and p what URCHIN p KNOWS.");
        UrchinSchool x = plain(6);
        write(x, "pass 3;keep 8");
        learn(x, 1, 0, 0, 0, 0, 128);
        x.beach(5, true);
        due("all, behind 0", x.on(0, 0), 1);
        due("held, behind 0", x.on(0, 1), 1);
        due("the first, behind 0", x.on(0, 10), 1);
        due("the last, behind 60", x.on(60, 15), 128);
        due("held, behind 3", x.on(3, 1), 4);
        due("held, behind 60", x.on(60, 1), 5);
        due("all, behind 60", x.on(60, 0), 1);
        x.beach(5, false);
        due("all, behind 60", x.on(60, 0), 129);
        due("held, behind 60", x.on(60, 1), 12);
        by(12, "ON n TIDES (0 .. 60): ALL; HELD; what one KNOWS.");
        UrchinSchool y = lively();
        UrchinSchool z = lively();
        for (int n = 0; n <= 60; n++) {
            due("all behind " + n, y.on(n, 0), z.told(3));
            due("held behind " + n, y.on(n, 1), z.told(4));
            due("one behind " + n, y.on(n, 10 + n % 5), z.of(n % 5, 2));
            z.pass(1);
        }
        due("nothing changed", y.told(0), 3);
    }

    private static void onRefusals() {
        by(12, "NONE;");
        UrchinSchool x = plain(5);
        for (int what : new int[] {-1, 2, 3, 9, 15, 16, 256, -10, LOW, LOW + 9, LOW + 10, HIGH}) {
            due("what " + what, x.on(0, what), NONE);
            due("what " + what + ", ahead of bad", x.on(61, what), NONE);
        }
        due("what 10, no urchin", new UrchinSchool().on(0, 10), NONE);
        by(12, "BAD: n.");
        for (int n : new int[] {-1, 61, 256, LOW, HIGH}) {
            due("n " + n, x.on(n, 0), BAD);
            due("n " + n, x.on(n, 1), BAD);
            due("n " + n, x.on(n, 14), BAD);
        }
    }

    private static void howAllIs() {
        by(12, "goes on from how all is");
        UrchinSchool x = with(1, 1, 1, 2, 4, 3, 4, 4, 5, 5, 5, 9);
        write(x, "keep 8;pass 99;dull 7 f=0;dull 6 f=1;dull 5 f=2;dull 4 f=3;dull 11 f=4;dull 16 f=5");
        for (int i = 0; i < 6; i++) {
            x.learn(i, 255);
        }
        int[] v = {0xc8, 0xcc, 0xce, 0xcf, 0xdf, 0xff};
        for (int i = 0; i < 6; i++) {
            due("by the v of " + i, x.on(1, 10 + i), v[i]);
        }
        UrchinSchool y = with(6, 0, 6, 0, 6, 0, 6, 0, 6, 0, 6, 0);
        for (int i = 0; i < 6; i++) {
            y.row(i, i % 4, 9);
            y.row(i, (i + 1) % 4, 2);
            y.learn(i, 15);
        }
        for (int i = 0; i < 6; i++) {
            due("by the row of " + i, y.on(1, 10 + i), 1 << i % 4);
        }
        UrchinSchool z = with(0, 0, 1, 0, 2, 0, 3, 0, 4, 0, 5, 0);
        write(z, "keep 8;pass 99;dull 4 f=0;dull 5 f=1;dull 3 f=2");
        for (int i = 0; i < 6; i++) {
            z.learn(i, 7);
        }
        int[] kind = {4, 4, 5, 0, 4, 5};
        for (int i = 0; i < 6; i++) {
            due("by the kind of " + i, z.on(1, 10 + i), kind[i]);
        }
        for (int i = 0; i < 6; i++) {
            z.beach(i, true);
            due("of " + i + " that is out", z.on(9, 10 + i), 7);
            z.beach(i, false);
        }
    }

    private static void beyond() {
        by(12, "All that follows is asked, goes on from how all is (TIDE beyond 9999, too), and changes nothing.");
        UrchinSchool x = plain(1);
        until(x, 9999);
        write(x, "keep 8;dull 3 !t=0;loud 1 t=9&f=0;dull 9 t=8&f=3");
        x.lesson(3, 0);
        x.lesson(0, 1);
        x.lesson(2, 4);
        x.learn(0, 8);
        due("9999: t is 9, its lesson the last", x.on(1, 0), 9);
        due("10000: t is 0, its lesson the first", x.on(2, 0), 11);
        due("10001 to 10008", x.on(10, 0), 3);
        due("10010: the third", x.on(12, 0), 19);
        due("on 60", x.on(60, 0), 19);
        due("lasts", x.lasts(3), 10);
        due("lasts, taught first at 9999", x.lasts(0), 0);
        due("teach at 9999, 10000", x.teach(2, -1), 3);
        due("teach at 9999", x.teach(2, 0) * 10 + x.teach(2, 1), 1);
        due("tell", x.tell(3), 0);
        x.see(0, 12, 4, true);
        x.see(0, 11, 4, false);
        due("knew", x.knew(0, 0), 128);
        due("firm", x.firm(0, 0), 10);
        due("odds", x.odds(1, 2, 0) * 10 + x.odds(1, 2, 1), 11);
        due("odds", x.odds(1, 1, 0) * 10 + x.odds(1, 1, 1), 1);
        x.plan(0, 0);
        x.plan(0, 0);
        due("done", x.done(0), 11);
        due("tide", x.told(0), 9999);
        due("knows", x.of(0, 2), 8);
        due("none may go", x.pass(1), STATE);
    }

    /**
     * One that forgets fact 7 in the tide that has so many ahead of it from now: facts 0, 1, 2 come one by one, each
     * once the tides of ten that are told have gone.
     */
    static UrchinSchool forgets(int urchins, int forgetsAt) {
        UrchinSchool x = plain(urchins);
        String others = "f=0&c<2&!t=9|f=1&c<3&!(c=2&t=8)|f=2&c<4&!(c=3&t=7)";
        write(x, "pass 99;dull 9 p=0&(" + others + "|f=7&c=4&t=" + forgetsAt + ")");
        x.lesson(3, 0);
        x.lesson(2, 1);
        x.lesson(1, 2);
        x.learn(0, 128);
        return x;
    }

    private static void lasts() {
        by(13, "LASTS of a FACT: the fewest TIDES (0 .. 60) behind which it is not of ALL (-5: it is by then).");
        UrchinSchool x = plain(2);
        write(x, "keep 8;pass 99;dull 4 f=0;dull 4 t=1&f=7;dull 4 p=0&f=6;dull 4 t=9&f=5");
        learn(x, 0xf1, 0x50);
        due("not now", x.lasts(1), 0);
        due("one tide", x.lasts(0), 1);
        due("two tides", x.lasts(7), 2);
        due("ten tides", x.lasts(5), 10);
        due("another knows it", x.lasts(6), NOTHING);
        due("for ever", x.lasts(4), NOTHING);
        x.lesson(0, 1);
        due("it comes, but is not now", x.lasts(1), 0);
        x.beach(0, true);
        due("of all is none that is out", x.lasts(7), 0);
        due("of all is none that is out", x.lasts(5), 0);
        x.beach(0, false);
        x.beach(1, true);
        due("the other is out", x.lasts(6), 1);
        due("no urchins", new UrchinSchool().lasts(7), 0);
        by(13, "LASTS; -5.");
        UrchinSchool y = forgets(1, 9);
        due("behind 59", y.on(59, 0), 135);
        due("behind 60", y.on(60, 0), 7);
        due("60", y.lasts(7), 60);
        y.pass(1);
        due("59", y.lasts(7), 59);
        UrchinSchool z = forgets(1, 0);
        due("behind 60", z.on(60, 0), 135);
        due("61 are not looked at", z.lasts(7), NOTHING);
        z.pass(1);
        due("60", z.lasts(7), 60);
    }

    private static void lastsLongest() {
        by(13, "NONE.");
        UrchinSchool x = plain(1);
        for (int fact : new int[] {-1, 8, 9, 31, 32, 256, LOW, HIGH}) {
            due("fact " + fact, x.lasts(fact), NONE);
        }
    }

    private static void teach() {
        by(14, "TEACH: k -1 how much, else the k-th (8: none; k 0 .. 2; -5: there are fewer).");
        UrchinSchool x = plain(1);
        write(x, "keep 8");
        for (int n = 1; n <= 3; n++) {
            due("how much of " + n, x.teach(n, -1), n);
            for (int k = 0; k < 3; k++) {
                due("the " + k + "-th of " + n, x.teach(n, k), k < n ? k : NOTHING);
            }
        }
        write(x, "dull 3 f<8");
        for (int k = 0; k < 3; k++) {
            due("none heeds any: of several the first", x.teach(3, k), 0);
        }
        due("how much", x.teach(3, -1), 0);
        write(x, "dull 90 c>0&t=2");
        due("8: none, in the first two", x.teach(3, 0) * 100 + x.teach(3, 1) * 10 + x.teach(3, 2), 880);
        due("how much", x.teach(3, -1), 1);
        by(14, "NONE: k;");
        for (int k : new int[] {-2, 3, 8, 256, LOW, HIGH}) {
            due("k " + k, x.teach(3, k), NONE);
            due("k " + k + ", ahead of bad", x.teach(0, k), NONE);
            due("k " + k + ", ahead of bad", x.teach(4, k), NONE);
        }
        by(14, "BAD: n.");
        for (int n : new int[] {-1, 0, 4, 256, LOW, HIGH}) {
            for (int k = -1; k < 3; k++) {
                due("n " + n + ", k " + k, x.teach(n, k), BAD);
            }
        }
    }

    private static void teachFirst() {
        by(14, "that by which HELD behind n is most (of several the first as a row of numbers, none being 8): "
            + "how much; the k-th.");
        UrchinSchool x = plain(1);
        write(x, "dull 90 c=1");
        due("what was learnt is forgotten: none ahead of it", x.teach(2, 0), 8);
        due("the first of those", x.teach(2, 1), 0);
        due("one", x.teach(2, -1), 1);
        due("three: learnt, forgotten, learnt", x.teach(3, 0) * 100 + x.teach(3, 1) * 10 + x.teach(3, 2), 0);
        write(x, "dull 90 c>0;dull 3 f<7");
        due("the last fact alone", x.teach(1, 0), 7);
        due("one that is not heeded is ahead of none", x.teach(2, 0) * 10 + x.teach(2, 1), 7);
        write(x, "keep 8;dull 3 f<6");
        due("6 and 7", x.teach(3, -1), 2);
        due("0, 6, 7 ahead of 6, 7", x.teach(3, 0) * 100 + x.teach(3, 1) * 10 + x.teach(3, 2), 67);
        write(x, "dull 90 c=0");
        x.learn(0, 15);
        due("no room for more", x.teach(3, -1), 4);
        due("the first row", x.teach(3, 0) * 100 + x.teach(3, 1) * 10 + x.teach(3, 2), 0);
        UrchinSchool y = plain(6);
        for (int i = 0; i < 6; i++) {
            y.learn(i, 7);
        }
        due("all at their most", y.teach(1, -1), 24);
        due("by the first that is new", y.teach(1, 0), 3);
        for (int i = 0; i < 6; i++) {
            y.beach(i, true);
        }
        due("all out", y.teach(3, -1), 0);
        due("all out: the first", y.teach(3, 2), 0);
        due("no urchins", new UrchinSchool().teach(1, -1), 0);
        due("no urchins: the first", new UrchinSchool().teach(1, 0), 0);
    }

    private static void teachInPlace() {
        by(14, "TEACH n TIDES (1 .. 3): of all rows of n LESSONS, a FACT or none each, taught in these TIDES in place "
            + "of theirs,");
        UrchinSchool x = plain(1);
        for (int k = 0; k < 4; k++) {
            x.lesson(k, 7);
        }
        write(x, "keep 8");
        due("theirs is taught in none", x.teach(3, -1), 3);
        due("the least", x.teach(3, 0) * 100 + x.teach(3, 1) * 10 + x.teach(3, 2), 12);
        write(x, "dull 90 c=1;dull 3 f<8&c=0&t<2");
        due("1 tide", x.teach(1, -1), 0);
        due("3 tides", x.teach(3, -1), 1);
        due("by the third alone", x.teach(3, 0) * 100 + x.teach(3, 1) * 10 + x.teach(3, 2), 0);
        x.pass(2);
        x.learn(0, 0);
        due("from now", x.teach(1, -1), 1);
        for (int k = 0; k < 4; k++) {
            due("theirs stay", x.told(10 + k), 7);
        }
        UrchinSchool y = with(0, 0, 1, 9);
        write(y, "keep 8;pass 10");
        due("what is passed on is held, too", y.teach(2, -1), 4);
        due("the first", y.teach(2, 0) * 10 + y.teach(2, 1), 1);
        y.lesson(1, 5);
        due("theirs", y.on(2, 1), 2);
        due("in place of theirs", y.teach(2, -1), 4);
    }

    private static void tell() {
        by(15, "TELL of a FACT: the one not OUT by whom, KNEW it that FACT now, too, LASTS of it is greatest, "
            + "-5 being greater than all (of several the first; -5: all are OUT).");
        UrchinSchool x = plain(6);
        write(x, "pass 99;dull 9 f=0&(t=0&p=0|t=1&p=1|t=2&p=2|t=3&p=3|t=4&p=4|t=5&p=5)");
        due("the greatest: the last", x.tell(0), 5);
        for (int i = 5; i > 0; i--) {
            x.beach(i, true);
            due("of those not out", x.tell(0), i - 1);
        }
        x.beach(0, true);
        due("all are out", x.tell(0), NOTHING);
        due("no urchins", new UrchinSchool().tell(0), NOTHING);
        x.beach(5, false);
        due("the last alone", x.tell(0), 5);
        UrchinSchool y = plain(4);
        write(y, "pass 99;dull 9 p=0&t=9|p=2&t=9|p=3&t=9");
        due("-5 is greater than 10", y.tell(7), 1);
        y.beach(1, true);
        due("of several the first", y.tell(7), 0);
        y.beach(0, true);
        due("of several the first", y.tell(7), 2);
        y.learn(3, 128);
        due("known by another: as long by any", y.tell(7), 2);
        UrchinSchool z = forgets(3, 9);
        z.learn(0, 0);
        due("-5 is greater than 60", tellOf(z, false), 1);
        due("60", tellOf(z, true), 0);
    }

    private static int tellOf(UrchinSchool x, boolean alone) {
        x.beach(1, alone);
        x.beach(2, alone);
        return x.tell(7);
    }

    private static void tellGreatest() {
        by(15, "KNEW it that FACT now, too,");
        UrchinSchool x = with(3, 0, 0, 0);
        write(x, "pass 99;dull 9 p=1&t=3");
        x.learn(0, 14);
        due("with all it knows one heeds it less", x.tell(0), 1);
        x.learn(0, 6);
        due("with fewer as much as is asked", x.tell(0), 0);
        due("nothing changed", x.of(0, 2), 6);
        UrchinSchool y = plain(2);
        write(y, "pass 99;keep 2;dull 9 p=1&t=5");
        y.learn(0, 3);
        due("room for those with the least numbers", y.tell(2), 1);
        due("room for those with the least numbers", y.tell(1), 0);
        by(15, "TELL; -5.");
        due("none left", tellOf(plain(0), true), NOTHING);
        by(15, "NONE.");
        for (int fact : new int[] {-1, 8, 31, 32, 256, LOW, HIGH}) {
            due("fact " + fact, y.tell(fact), NONE);
            due("fact " + fact + ", though all are out", new UrchinSchool().tell(fact), NONE);
        }
    }

    private static void askedChangesNothing() {
        by(12, "and changes nothing.");
        UrchinSchool x = lively();
        String was = shown(x);
        for (int n : new int[] {0, 1, 7, 60}) {
            x.on(n, 0);
            x.on(n, 1);
            x.on(n, 12);
            x.odds(1, n, 0);
        }
        for (int fact = 0; fact < 8; fact++) {
            x.lasts(fact);
            x.tell(fact);
        }
        for (int n = 1; n <= 3; n++) {
            x.teach(n, -1);
            x.teach(n, 0);
        }
        for (int i = 0; i < 5; i++) {
            x.knew(i, 0);
            x.knew(i, 1);
            x.firm(i, 0);
            x.firm(i, 1);
            x.as(i, 0);
        }
        x.mean(0);
        x.mean(1);
        x.told(6);
        x.done(0);
        x.done(1);
        x.looked();
        same("all is as it was", shown(x), was);
        type(x, "p 6;pass 2");
        due("so is the tape", x.ledge(), 2);
        due("the ledge from it", x.told(1) * 10 + x.told(2), 62);
        due("so is the image", x.undo(), 5);
        due("the image's ledges, tape and tide", x.count(1) * 100 + x.count(5) * 10 + x.told(0), 233);
    }
}
