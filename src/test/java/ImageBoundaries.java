/** Promises 28 to 30: the image, what undo brings back, counts. */
final class ImageBoundaries extends Boundaries {
    static void run() {
        image();
        undo();
        none();
        allThatThereIs();
        allOfEach();
        emptyImage();
        fullImage();
        butTheTrace();
        butTheImage();
        counts();
        countsFull();
        countRefusals();
    }

    private static void image() {
        by(28, "THE IMAGE is taken: how many URCHINS there are.");
        UrchinSchool x = new UrchinSchool();
        due("none", x.image(), 0);
        for (int i = 1; i <= 6; i++) {
            x.urchin(i, i);
            due("so many", x.image(), i);
        }
        due("again", x.image(), 6);
        for (int i = 0; i < 6; i++) {
            x.beach(i, true);
        }
        due("all out", x.image(), 6);
        due("nothing changed", x.told(5), 63);
    }

    private static void undo() {
        by(29, "All is as THE IMAGE: how many URCHINS.");
        UrchinSchool x = new UrchinSchool();
        x.image();
        x.urchin(0, 0);
        x.urchin(1, 1);
        due("to none", x.undo(), 0);
        due("none", x.count(0), 0);
        due("none", x.of(0, 0), NO_HEED);
        for (int i = 0; i < 6; i++) {
            x.urchin(i, i);
        }
        x.image();
        due("to six", x.undo(), 6);
        due("no seventh", x.urchin(0, 0), FULL);
        UrchinSchool y = plain(3);
        y.image();
        y.urchin(6, 9);
        due("the latest image", y.image(), 4);
        y.urchin(5, 9);
        due("the latest image", y.undo(), 4);
        due("the fourth", y.of(3, 0), 6);
        due("the fifth", y.urchin(1, 2), 4);
        due("its kind", y.of(4, 0), 1);
    }

    private static void none() {
        by(29, "STATE: there is none.");
        UrchinSchool x = new UrchinSchool();
        due("a new object", x.undo(), STATE);
        x.urchin(3, 3);
        x.learn(0, 3);
        type(x, "ke");
        due("no image", x.undo(), STATE);
        due("nothing changed", x.of(0, 2), 3);
        due("nothing changed", x.count(5), 2);
        x.image();
        due("an image", x.undo(), 1);
        due("another object", new UrchinSchool().undo(), STATE);
    }

    private static void allThatThereIs() {
        by(28, "THE IMAGE: all that there is (but THE IMAGE and THE TRACE).");
        for (int round = 0; round < 2; round++) {
            UrchinSchool x = lively();
            String was = shown(x);
            change(x, round);
            due("something changed", shown(x).equals(was) ? 1 : 0, 0);
            due("urchins", x.undo(), 5);
            same("all", shown(x), was);
        }
        UrchinSchool y = lively();
        change(y, 0);
        y.undo();
        int[] rows = {0, 5, 7};
        for (int i = 0; i < 3; i++) {
            due("row of one", y.row(1, new int[] {1, 0, 2}[i], 0), rows[i]);
        }
        y.undo();
        type(y, "p 1;pass 0");
        due("the tape, and how many ledges", y.ledge(), 2);
        due("the tape", y.told(1) * 10 + y.told(2), 10);
        y.undo();
        due("the ledge that held", y.told(1) * 10 + y.told(2), 54);
        due("the next", write(y, "p 7"), 2);
        due("the tape", y.told(1), 7);
    }

    private static void change(UrchinSchool x, int round) {
        x.urchin(round, 1);
        x.learn(0, 7 + round);
        x.learn(4, 1);
        x.row(1, 2, 1);
        x.row(1, 0, 9);
        x.beach(0, true);
        x.beach(3, round == 1);
        for (int k = 0; k < 4; k++) {
            x.lesson(k, k + 2);
        }
        x.pass(31 + round);
        write(x, "p 8;dull 50 f<8");
        write(x, "keep 2;loud 9 p=1");
        type(x, "pass 7");
        x.see(-1, 0, 0, true);
        x.see(3, 3, 3, true);
        x.plan(-1, 0);
        x.plan(1, 1);
        x.book(-1, 0);
        x.book(0, 200);
    }

    /** Six told ones, all rows by hand, each otherwise than any other; by another number all is otherwise once more. */
    private static void tellAll(UrchinSchool x, int number) {
        for (int i = 0; i < 6; i++) {
            x.urchin(6, (i + number) % 10);
            x.learn(i, 40 * i + number);
            for (int k = 0; k < 4; k++) {
                x.row(i, k, (i + k + number) % 10);
            }
        }
        x.see(-1, 0, 0, true);
        for (int i = 0; i < 5; i++) {
            x.see(5, 0, i, ((40 * 5 + number) >> i & 1) == 1);
        }
        x.plan(-1, 0);
        x.book(-1, 0);
        for (int i = 0; i < 8; i++) {
            x.plan(3, 10 * (i % 6) + (i + number) % 8);
            x.book(i % 6, 40 * (i % 6) + number);
        }
    }

    private static void allOfEach() {
        by(28, "THE IMAGE: all that there is (but THE IMAGE and THE TRACE).");
        UrchinSchool x = new UrchinSchool();
        x.image();
        tellAll(x, 3);
        x.undo();
        tellAll(x, 1);
        x.image();
        int all = x.done(0);
        int held = x.done(1);
        tellAll(x, 5);
        x.undo();
        due("the plan's rows", x.done(0), all);
        due("the plan's rows", x.done(1), held);
        due("what is seen: the sets with the other three facts", x.knew(5, 0), 8);
        due("what is seen", x.knew(5, 1), 201 & 31);
        due("the book's rows", x.looked(), NOTHING);
        for (int i = 0; i < 6; i++) {
            due("v", x.of(i, 1), i + 1);
            for (int k = 0; k < 4; k++) {
                due("row", x.row(i, k, 0), (i + k + 1) % 10);
            }
        }
    }

    private static void emptyImage() {
        by(29, "All is as THE IMAGE: how many URCHINS.");
        UrchinSchool x = new UrchinSchool();
        String was = shown(x);
        x.image();
        for (int i = 0; i < 6; i++) {
            x.urchin(6, 9);
            x.learn(i, 255);
            x.row(i, i % 4, 9);
            x.beach(i, i > 2);
            x.see(i, i, i, true);
        }
        change(x, 0);
        due("to none", x.undo(), 0);
        same("all", shown(x), was);
        due("the tape", x.count(5), 0);
        due("a ledge", write(x, "keep 3"), 0);
        due("no clauses", x.undo() * 10 + x.told(1), 4);
    }

    private static void fullImage() {
        by(29, "All is as THE IMAGE: how many URCHINS.");
        UrchinSchool x = full();
        String was = shown(full());
        due("urchins", x.image(), 6);
        change(x, 1);
        x.see(-1, 0, 0, true);
        x.plan(-1, 0);
        x.book(-1, 0);
        due("urchins", x.undo(), 6);
        same("all", shown(x), was);
        fullAgain();
        imageOfTides();
    }

    private static void fullAgain() {
        UrchinSchool x = full();
        x.image();
        change(x, 0);
        x.undo();
        due("full of urchins", x.urchin(0, 0), FULL);
        due("full of signs", x.feed('k'), FULL);
        due("full of ledges", x.ledge(), FULL);
        due("full of seen", x.see(0, 0, 0, true), FULL);
        due("full of plans", x.plan(0, 0), FULL);
        due("full of books", x.book(0, 0), FULL);
    }

    private static void imageOfTides() {
        UrchinSchool y = plain(1);
        until(y, 9999);
        y.image();
        due("no tide more", y.pass(1), STATE);
        due("tide 9999", y.undo() * 10000 + y.told(0), 19999);
        UrchinSchool z = plain(1);
        z.image();
        until(z, 9999);
        due("tide 0", z.undo() * 10000 + z.told(0), 10000);
        due("tides may go again", z.pass(60), 60);
    }

    private static void butTheTrace() {
        by(28, "(but THE IMAGE and THE TRACE).");
        UrchinSchool x = with(4, 3, 2, 1);
        x.act(0, 2, 5);
        x.image();
        due("the trace stays", x.trace(0), 41);
        x.act(1, 1, 5);
        x.undo();
        due("the trace of the latest act", x.trace(0), 21);
        due("how many ran", x.count(6), 3);
        UrchinSchool y = new UrchinSchool();
        y.image();
        y.urchin(4, 3);
        y.act(0, 2, 5);
        y.undo();
        due("of one that there is no more", y.trace(0) * 10 + y.count(6), 417);
        y.urchin(1, 0);
        due("though there is another", y.trace(6) * 10 + y.count(6), 17);
        y.act(1, 0, 0);
        y.undo();
        due("no trace stays none", y.trace(0), NONE);
        due("none ran", y.count(6), 0);
    }

    private static void butTheImage() {
        by(28, "(but THE IMAGE and THE TRACE).");
        UrchinSchool x = plain(2);
        x.image();
        for (int i = 0; i < 4; i++) {
            x.urchin(0, 0);
            x.learn(0, 1 + i);
            due("the image is there again", x.undo(), 2);
            due("as it was", x.of(0, 2), 0);
        }
        x.learn(1, 9);
        x.image();
        x.undo();
        due("the new one", x.of(1, 2), 9);
        x.learn(1, 8);
        x.undo();
        due("no older one behind it", x.of(1, 2), 9);
        UrchinSchool y = new UrchinSchool();
        for (int i = 0; i < 3; i++) {
            write(y, "keep " + i);
        }
        y.image();
        for (int round = 0; round < 3; round++) {
            due("the fourth ledge", write(y, "keep 7"), 3);
            due("the fifth ledge", write(y, "keep 8"), 4);
            due("full", y.ledge(), FULL);
            y.undo();
            due("three ledges", y.count(1), 3);
            due("the third holds", y.told(1), 2);
            due("by a fault, too", write(y, "keep 9;keep"), -21);
            due("the third holds", y.told(1), 2);
        }
    }

    private static void counts() {
        by(30, "0 URCHINS, 1 LEDGES, 2 of SEEN, 3 of the PLAN, 4 rows of BOOK, 5 signs of THE TAPE, "
            + "6 bodies that ran in the latest act() (all, kept or not).");
        UrchinSchool x = new UrchinSchool();
        for (int what = 0; what <= 6; what++) {
            due("a new object, " + what, x.count(what), 0);
        }
        x.urchin(0, 0);
        due("an urchin", x.count(0), 1);
        write(x, "keep 1");
        due("a ledge", x.count(1), 1);
        x.see(0, 0, 0, true);
        x.see(0, 0, 0, true);
        due("two of seen", x.count(2), 2);
        for (int i = 0; i < 3; i++) {
            x.plan(0, 0);
        }
        due("three of the plan", x.count(3), 3);
        for (int i = 0; i < 4; i++) {
            x.book(0, 0);
        }
        due("four of the book", x.count(4), 4);
        type(x, "=====");
        due("five signs", x.count(5), 5);
        x.act(0, 2, 1);
        due("three bodies", x.count(6), 3);
        int[] want = {1, 1, 2, 3, 4, 5, 3};
        for (int what = 0; what <= 6; what++) {
            due("together, " + what, x.count(what), want[what]);
        }
    }

    private static void countsFull() {
        by(30, "6 bodies that ran in the latest act() (all, kept or not).");
        UrchinSchool x = full();
        x.act(5, 2, 1);
        int[] most = {6, 5, 5, 8, 8, 100, 7};
        for (int what = 0; what <= 6; what++) {
            due("at the most, " + what, x.count(what), most[what]);
        }
        x.act(5, 3, 1);
        due("behind a refused act", x.count(6), 0);
    }

    private static void countRefusals() {
        by(30, "NONE.");
        UrchinSchool x = full();
        for (int what : new int[] {-1, 7, 8, 10, 256, LOW, HIGH}) {
            due("what " + what, x.count(what), NONE);
            due("what " + what + ", a new object", new UrchinSchool().count(what), NONE);
        }
    }
}
