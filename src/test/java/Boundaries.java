/** What the tests of boundaries share: each names its promise and quotes a sentence of the document, then asks. */
class Boundaries {
    static final int NONE = -1;
    static final int BAD = -2;
    static final int STATE = -3;
    static final int FULL = -4;
    static final int NOTHING = -5;
    static final int NO_HEED = -999999;
    static final long NO = Long.MIN_VALUE;
    static final int LOW = Integer.MIN_VALUE;
    static final int HIGH = Integer.MAX_VALUE;

    private static final Sentences DOC = new Sentences();
    private static String sentence;
    private static int asked;

    /** From here on, what is due is due by this sentence. */
    static void by(int promise, String words) {
        close();
        sentence = "promise " + promise + ", \"" + words + "\"";
        Check.holds(sentence + " stands in the document", DOC.quote(promise, words));
    }

    static void due(String call, long got, long want) {
        asked++;
        Check.due(sentence + ": " + call, got, want);
    }

    static void same(String call, String got, String want) {
        due(call + (got.equals(want) ? "" : " (" + got + ", not " + want + ")"), got.equals(want) ? 1 : 0, 1);
    }

    private static void close() {
        if (sentence != null) {
            System.out.println(sentence + ": " + asked + " asked");
            Check.holds(sentence + " is asked after", asked > 0);
        }
        sentence = null;
        asked = 0;
    }

    /** Ends the tests: no sentence of the document may be left without one. */
    static void end() {
        close();
        for (String word : DOC.wordsLeft()) {
            Check.holds(word + " is quoted by no test", false);
        }
    }

    /** A school of kinds and vs, one after the other. */
    static UrchinSchool with(int... kindsAndVs) {
        UrchinSchool x = new UrchinSchool();
        for (int i = 0; i + 1 < kindsAndVs.length; i += 2) {
            x.urchin(kindsAndVs[i], kindsAndVs[i + 1]);
        }
        return x;
    }

    /** So many of kind 0, with v 0. */
    static UrchinSchool plain(int many) {
        return with(new int[2 * many]);
    }

    static void type(UrchinSchool x, String text) {
        for (int i = 0; i < text.length(); i++) {
            x.feed(text.charAt(i));
        }
    }

    static int write(UrchinSchool x, String text) {
        type(x, text);
        return x.ledge();
    }

    /** Lets tides go until the tide is told; with few calls, as an object has but 512. */
    static void until(UrchinSchool x, int tide) {
        for (int at = x.told(0); at < tide; at += 60) {
            x.pass(Math.min(60, tide - at));
        }
    }

    /** A school in which much is so: five urchins, two ledges, tide 3, an image, an act, and a tape that has begun. */
    static UrchinSchool lively() {
        UrchinSchool x = with(4, 3, 6, 4, 2, 9, 3, 0, 1, 5);
        write(x, "keep 3;pass 9");
        write(x, "keep 5;pass 4;loud 2 f<3;dull 3 t=4&p>2");
        x.row(1, 2, 7);
        x.row(1, 0, 5);
        x.lesson(0, 6);
        x.lesson(3, 1);
        x.learn(0, 0x93);
        x.learn(1, 0x0c);
        x.learn(4, 0x60);
        x.pass(3);
        x.beach(3, true);
        x.learn(2, 0x55);
        x.see(0, 2, 1, true);
        x.see(2, 0, 4, true);
        x.plan(0, 0);
        x.plan(3, 17);
        x.plan(2, 3);
        x.book(2, 0x55);
        x.book(4, 0x01);
        type(x, "kee");
        x.image();
        x.act(0, 2, 11);
        return x;
    }

    /** One in which all is at its most: nothing more can come. */
    static UrchinSchool full() {
        UrchinSchool x = with(6, 9, 6, 9, 6, 9, 4, 9, 4, 9, 4, 9);
        for (int i = 0; i < 5; i++) {
            write(x, "keep 9" + i + ";pass 9" + i);
        }
        for (int i = 0; i < 6; i++) {
            x.learn(i, 255);
            x.row(i, 3, 9);
        }
        for (int k = 0; k < 4; k++) {
            x.lesson(k, 7);
        }
        type(x, "keep 1;keep 2;keep 3;keep 4;keep 5;keep 6;keep 7;keep 8;loud 99 p=99;pass 10"
            + "                              ".substring(0, 24));
        for (int i = 0; i < 8; i++) {
            x.see(5, 12, 7, true);
            x.plan(3, 57);
            x.book(5, 255);
        }
        return x;
    }

    /** All that a school shows, but what its tape says and its image. */
    static String shown(UrchinSchool x) {
        StringBuilder text = new StringBuilder();
        for (int what = 0; what < 14; what++) {
            text.append(x.told(what)).append(' ');
        }
        for (int what = 0; what < 7; what++) {
            text.append(x.count(what)).append(' ').append(x.trace(what)).append(' ');
        }
        for (int i = 0; i < x.count(0); i++) {
            text.append("; ").append(i).append(": ");
            for (int what = 0; what < 18; what++) {
                if (what < 4 || what > 9) {
                    text.append(x.of(i, what)).append(' ');
                }
            }
        }
        text.append(x.knew(0, 0)).append(' ').append(x.firm(0, 0)).append(' ').append(x.on(2, 1)).append(' ');
        text.append(x.done(0)).append(' ').append(x.done(1)).append(' ').append(x.looked());
        return text.toString();
    }
}
