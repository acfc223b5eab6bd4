/** Promises 1 to 3: a new object, the tape, and which texts are ledges. */
final class LedgeBoundaries extends Boundaries {
    private static final String HUNDRED = "keep 1;keep 2;keep 3;keep 4;keep 5;keep 6;keep 7;keep 8;keep 9;"
        + "loud 10 p=10|p=11|p=12|p=13|p=14|p=15";
    private static final String TEN = "keep 1;pass 2;keep 3;pass 4;keep 5;pass 6;keep 7;pass 8;keep 9;pass 10";

    static void run() {
        newObject();
        signs();
        tapeIsFull();
        ledgeOrFault();
        ledgesAreFull();
        clauses();
        words();
        blanks();
        numbers();
        expressions();
        binding();
        tests();
        open();
        openTill();
        firstByte();
        endsTooEarly();
        numbered();
        keepAndPass();
    }

    private static void right(String text) {
        due("ledge of '" + text + "'", write(new UrchinSchool(), text), 0);
    }

    private static void fault(String text, int place) {
        due("ledge of '" + text + "'", write(new UrchinSchool(), text), -10 - place);
    }

    private static void newObject() {
        by(1, "No URCHINS, no LEDGE.");
        UrchinSchool x = new UrchinSchool();
        for (int what = 0; what <= 6; what++) {
            due("count(" + what + ")", x.count(what), 0);
        }
        due("of(0, 0)", x.of(0, 0), NO_HEED);
        due("learn(0, 1)", x.learn(0, 1), NONE);
        due("as(0, 0)", x.as(0, 0), NONE);
        due("all, held, out, few", x.told(3) + x.told(4) + x.told(5) + x.told(6), 0);
        due("undo()", x.undo(), STATE);
        due("trace(0)", x.trace(0), NONE);
        due("tell(0)", x.tell(0), NOTHING);
        due("mean(0)", x.mean(0), NO);
        due("odds(0, 0, 1)", x.odds(0, 0, 1), NO);
        due("looked()", x.looked(), NOTHING);
        by(1, "TIDE: 0 at first.");
        due("told(0)", x.told(0), 0);
        due("of another", new UrchinSchool().told(0), 0);
        by(1, "without one there are no CLAUSES.");
        due("keep", x.told(1), 4);
        due("pass", x.told(2), 6);
        x.urchin(0, 0);
        for (int fact = 0; fact < 8; fact++) {
            due("heed", x.of(0, 10 + fact), 3);
        }
    }

    private static void signs() {
        by(2, "A sign (0 .. 127) comes behind THE TAPE's: how many it has.");
        UrchinSchool x = new UrchinSchool();
        due("feed(0)", x.feed(0), 1);
        due("feed(127)", x.feed(127), 2);
        due("feed(1)", x.feed(1), 3);
        due("feed(126)", x.feed(126), 4);
        due("count(5)", x.count(5), 4);
        UrchinSchool y = new UrchinSchool();
        type(y, "keep 27");
        due("in the order of their coming", y.ledge(), 0);
        due("in the order of their coming", y.told(1), 27);
        for (int sign : new int[] {0, 10, 127}) {
            fault("kee" + (char) sign, 3);
        }
        by(2, "BAD;");
        type(y, "ke");
        for (int sign : new int[] {-1, 128, 255, 256 + 'e', -128, 'e' - 256, LOW, HIGH}) {
            due("feed(" + sign + ")", y.feed(sign), BAD);
        }
        due("nothing came", y.count(5), 2);
        due("the next", y.feed('e'), 3);
        type(y, "p 8");
        due("nothing came", y.ledge(), 1);
    }

    private static void tapeIsFull() {
        by(2, "FULL.");
        UrchinSchool x = new UrchinSchool();
        for (int i = 0; i < 100; i++) {
            due("feed", x.feed(HUNDRED.charAt(i)), i + 1);
        }
        due("the 101st", x.feed('0'), FULL);
        due("the 101st", x.feed(0), FULL);
        due("the 101st", x.feed(127), FULL);
        due("bad ahead of full", x.feed(128), BAD);
        due("bad ahead of full", x.feed(-1), BAD);
        due("how many it has", x.count(5), 100);
        due("the tape is as it was", x.ledge(), 0);
        due("empty then", x.feed('k'), 1);
        by(2, "A LEDGE is read from THE TAPE (bytes, 100 at most):");
        due("signs", HUNDRED.length(), 100);
        right(HUNDRED);
        right(HUNDRED.substring(0, 99));
        fault(HUNDRED.substring(0, 98), 98);
        fault(HUNDRED.substring(0, 99) + "p", 99);
        String open = HUNDRED.substring(0, 71) + "(p=10|p=11|p=12|p=13|p=14|p=1";
        due("signs", open.length(), 100);
        fault(open, 100);
        fault(HUNDRED.substring(0, 98) + "1&", 100);
        UrchinSchool y = new UrchinSchool();
        for (int i = 0; i < 100; i++) {
            y.feed(' ');
        }
        due("100 blanks", y.ledge(), -10);
    }

    private static void ledgeOrFault() {
        by(3, "THE TAPE, which is empty then (by a FAULT, too), is a LEDGE, and holds: its number;");
        UrchinSchool x = new UrchinSchool();
        due("the first", write(x, "keep 2;pass 9"), 0);
        due("the tape", x.count(5), 0);
        due("it holds", x.told(1) * 100 + x.told(2), 209);
        due("a fault", write(x, "keep 3x"), -16);
        due("the tape", x.count(5), 0);
        due("a sign", x.feed('k'), 1);
        due("a fault", x.ledge(), -11);
        due("the second", write(x, "keep 3"), 1);
        due("the tape", x.count(5), 0);
        by(3, "-10 less the FAULT (the one that held holds).");
        due("at 0", write(x, "?keep 5"), -10);
        due("at 7", write(x, "keep 5;;"), -17);
        due("at 15", write(x, "keep 5;pass 11;"), -25);
        due("the one that held", x.told(1) * 100 + x.told(2), 306);
        due("ledges", x.count(1), 2);
        UrchinSchool y = plain(1);
        due("none held", write(y, "keep 5;pass 1;loud 9 p=0;"), -35);
        due("none holds", y.told(1) * 100 + y.told(2), 406);
        due("none holds", y.of(0, 10), 3);
        due("ledges", y.count(1), 0);
        due("the first", write(y, "dull 9 p=0"), 0);
        due("a fault", write(y, "loud 9 p=0;loud 9 p=0&"), -32);
        due("the one that held", y.of(0, 10), -6);
    }

    private static void ledgesAreFull() {
        by(3, "FULL (ahead of all; THE TAPE stays).");
        UrchinSchool x = new UrchinSchool();
        for (int i = 0; i < 4; i++) {
            write(x, "keep " + i);
        }
        type(x, "keep 7");
        x.image();
        due("the fifth", x.ledge(), 4);
        due("an empty tape", x.ledge(), FULL);
        due("a fault", write(x, "kk"), FULL);
        due("the tape", x.count(5), 2);
        due("again", x.ledge(), FULL);
        due("the fifth holds", x.told(1), 7);
        due("ledges", x.count(1), 5);
        due("the tape", x.feed('k'), 3);
        x.undo();
        due("ledges", x.count(1), 4);
        due("the fourth holds", x.told(1), 3);
        due("the fifth", x.ledge(), 4);
        due("a right tape", write(x, "keep 8"), FULL);
        due("the tape", x.count(5), 6);
        due("the fifth holds", x.told(1), 7);
    }

    private static void clauses() {
        by(3, "CLAUSES, 10 at most, with ; between:");
        right("keep 1");
        right("keep 1;keep 2");
        right(TEN);
        UrchinSchool x = new UrchinSchool();
        write(x, TEN);
        due("the tenth is read", x.told(2), 10);
        fault(TEN + ";", TEN.length());
        fault(TEN + ";keep 1", TEN.length());
        String nine = TEN.substring(0, TEN.lastIndexOf(';'));
        right(nine);
        fault(nine + ";", nine.length() + 1);
        right(nine + ";dull 1 p=0");
        fault(nine + ";dull 1 p=0;", nine.length() + 11);
        fault(";keep 1", 0);
        fault("keep 1;;keep 2", 7);
        fault("keep 1,keep 2", 6);
        fault("keep 1 keep 2", 6);
        fault("keep 1:keep 2", 6);
        fault("keep 1; keep 2", 7);
        fault("keep 1 ;keep 2", 6);
        fault("loud 1 (p=1;p=2)", 11);
        by(3, "(the size, if it ends too early).");
        fault("", 0);
    }

    private static void words() {
        by(3, "keep n; pass n; loud n E; dull n E");
        for (String rest : new String[] {"keep 1", "pass 1", "loud 1 p=1", "dull 1 p=1"}) {
            right(rest);
            for (int i = 0; i < 5; i++) {
                String ahead = rest.substring(0, i);
                fault(ahead, i);
                fault(ahead + "_" + rest.substring(i + 1), i);
                fault(ahead + (char) (rest.charAt(i) - 32) + rest.substring(i + 1), i);
                right("keep 1;" + rest);
                fault("keep 1;" + ahead + "~" + rest.substring(i + 1), 7 + i);
            }
        }
        for (char first : "abcefghijmnoqrstuvwxyz".toCharArray()) {
            fault(first + "eep 1", 0);
        }
        fault("kass 1", 1);
        fault("peep 1", 1);
        fault("dudl 1 p=1", 2);
        fault("loll 1 p=1", 2);
        fault("keep 1 p=1", 6);
        fault("pass 1 p=1", 6);
        fault("loud 1", 6);
        fault("dull 1", 6);
        fault("loud 1;keep 1", 6);
        fault("keeps 1", 4);
        right("keep 1;pass 1;loud 1 p=1;dull 1 p=1;keep 1;pass 1;loud 1 p=1;dull 1 p=1");
    }

    private static void blanks() {
        by(3, "(one blank ahead of each part behind the word;");
        fault("keep1", 4);
        fault("keep  1", 5);
        fault("keep\t1", 4);
        fault("pass1", 4);
        fault("pass  1", 5);
        fault("loud1 p=1", 4);
        fault("loud  1 p=1", 5);
        fault("loud 1p=1", 6);
        fault("loud 1  p=1", 7);
        fault("loud 12p=1", 7);
        fault("loud 12  p=1", 8);
        fault("dull1 p=1", 4);
        fault("dull  1 p=1", 5);
        fault("dull 1(p=1)", 6);
        fault("dull 1!p=1", 6);
        fault("dull 1  p=1", 7);
        fault(" keep 1", 0);
        fault("keep 1 ", 6);
        fault("loud 1 p=1 ", 10);
        fault("loud 1 p =1", 8);
        fault("loud 1 p= 1", 9);
        fault("loud 1 ! p=1", 8);
        fault("loud 1 ( p=1)", 8);
        fault("loud 1 (p=1 )", 11);
        fault("loud 1 p=1 &p=2", 10);
        fault("loud 1 p=1& p=2", 11);
        fault("loud 1 p=1 |p=2", 10);
        fault("loud 1 p=1| p=2", 11);
    }

    private static void numbers() {
        by(3, "n 1 or 2 digits, no 0 ahead of another).");
        for (String word : new String[] {"keep ", "pass "}) {
            for (int n : new int[] {0, 1, 9, 10, 19, 90, 99}) {
                right(word + n);
                UrchinSchool x = new UrchinSchool();
                write(x, word + n);
                due(word + n, word.equals("keep ") ? x.told(1) : x.told(2), n);
            }
            numberFaults(word, "");
        }
        for (String word : new String[] {"loud ", "dull "}) {
            int by = word.equals("loud ") ? 1 : -1;
            for (int n : new int[] {0, 1, 9, 10, 19, 90, 99}) {
                UrchinSchool x = plain(1);
                due(word + n, write(x, word + n + " p=0"), 0);
                due("heed by " + word + n, x.of(0, 10), 3 + by * n);
            }
            numberFaults(word, " p=1");
        }
        by(3, "a number likewise:");
        right("loud 1 p=0");
        right("loud 1 p=9");
        right("loud 1 p=10");
        right("loud 1 p=99");
        numberFaults("loud 1 p=", "");
        numberFaults("loud 1 p<", "");
        numberFaults("loud 1 (p>", ")");
    }

    private static void numberFaults(String ahead, String behind) {
        int at = ahead.length();
        fault(ahead, at);
        fault(ahead + behind, at);
        fault(ahead + "x" + behind, at);
        fault(ahead + "-1" + behind, at);
        fault(ahead + "+1" + behind, at);
        fault(ahead + "/" + behind, at);
        fault(ahead + ":" + behind, at);
        fault(ahead + "00" + behind, at + 1);
        fault(ahead + "01" + behind, at + 1);
        fault(ahead + "09" + behind, at + 1);
        fault(ahead + "1/" + behind, at + 1);
        fault(ahead + "1:" + behind, at + 1);
        fault(ahead + "1x" + behind, at + 1);
        fault(ahead + "100" + behind, at + 2);
        fault(ahead + "999" + behind, at + 2);
        fault(ahead + "10x" + behind, at + 2);
    }

    private static void expressions() {
        by(3, "E: T, or T|E. T: F, or F&T. F: !F, (E), or a TEST:");
        right("loud 1 p=1|p=2");
        right("loud 1 p=1|p=2|p=3");
        right("loud 1 p=1&p=2");
        right("loud 1 p=1&p=2&p=3");
        right("loud 1 p=1&p=2|p=3&p=4|p=5");
        right("loud 1 !p=1");
        right("loud 1 !!p=1&!p=2|!p=3");
        right("loud 1 (p=1)");
        right("loud 1 (p=1|p=2)&p=3");
        right("loud 1 p=3|(p=1&(p=2|p=3))");
        fault("loud 1 |p=1", 7);
        fault("loud 1 &p=1", 7);
        fault("loud 1 )p=1", 7);
        fault("loud 1 p=1|", 11);
        fault("loud 1 p=1&", 11);
        fault("loud 1 p=1||p=2", 11);
        fault("loud 1 p=1&&p=2", 11);
        fault("loud 1 p=1|&p=2", 11);
        fault("loud 1 p=1&|p=2", 11);
        fault("loud 1 p=1p=2", 10);
        fault("loud 1 p=1!p=2", 10);
        fault("loud 1 p=1(p=2)", 10);
        fault("loud 1 p=1)", 10);
        fault("loud 1 !", 8);
        fault("loud 1 !&p=1", 8);
        fault("loud 1 !)", 8);
        fault("loud 1 !;", 8);
        fault("loud 1 (", 8);
        fault("loud 1 ()", 8);
        fault("loud 1 (|p=1)", 8);
        fault("loud 1 (p=1|)", 12);
        fault("loud 1 (p=1&)", 12);
        fault("loud 1 (p=1", 11);
        fault("loud 1 (p=1;keep 1", 11);
        fault("loud 1 (p=1))", 12);
        fault("loud 1 ((p=1)", 13);
        fault("loud 1 (p=1)(p=2)", 12);
        fault("loud 1 (p=1)!p=2", 12);
        fault("loud 1 (p=1)5", 12);
        fault("loud 1 [p=1]", 7);
        fault("loud 1 1", 7);
    }

    /** How six of kind 0 heed fact 0 by one clause that is loud: 1 for each for whom it holds. */
    private static void holds(String e, String want) {
        UrchinSchool x = plain(6);
        due("ledge of 'loud 1 " + e + "'", write(x, "loud 1 " + e), 0);
        StringBuilder got = new StringBuilder();
        for (int i = 0; i < 6; i++) {
            got.append(x.of(i, 10) - 3);
        }
        same("for whom " + e + " holds", got.toString(), want);
    }

    private static void binding() {
        by(3, "E: T, or T|E. T: F, or F&T. F: !F, (E), or a TEST:");
        holds("p=0|p=1&p=2", "100000");
        holds("p=1&p=2|p=0", "100000");
        holds("(p=0|p=1)&p=2", "000000");
        holds("p<2&p>0|p=5&p>4", "010001");
        holds("p<3&(p>0|p=5)&p>1", "001000");
        holds("p=0|p=2|p=4", "101010");
        holds("p<5&p<4&p<3", "111000");
        holds("!p=1", "101111");
        holds("!!p=1", "010000");
        holds("!p=1&p<3", "101000");
        holds("!p=1|p=1", "111111");
        holds("!(p=1|p=2)", "100111");
        holds("!(p=1|p=2)&p<4", "100100");
        holds("p<4&!(p=1|p=2)", "100100");
        holds("!(!(p<2)&!p=5)", "110001");
        holds("((p=1))|(((p=3)))", "010100");
        holds("p>3|(p>1&(p<3|(p<1&(p=0|(p=1)))))", "001011");
        holds("p=0&p=0|p=1&p=1|p=2&p=2|p=3&p=3", "111100");
        holds("(p=0|p=1|p=2)&(p=2|p=3)|(p=4|p=5)&!(p=4)", "001001");
        holds("p=0|!(p=1|!(p=2|p>3))", "101011");
        holds("p=0&!p<0", "100000");
        holds("p<3&!(p<0|p=1)", "101000");
        holds("!(p<0&p<0)&!(p>1|p<0)", "110000");
    }

    private static void tests() {
        by(3, "p or k or v or f or c or t, one of < = >,");
        for (char letter = ' '; letter < 127; letter++) {
            if ("pkvfct".indexOf(letter) >= 0) {
                right("loud 1 " + letter + "=1");
                fault("loud 1 " + letter, 8);
                fault("loud 1 " + letter + letter, 8);
            } else if ("!(".indexOf(letter) < 0) {
                fault("loud 1 " + letter + "=1", 7);
            }
        }
        for (char sign = ' '; sign < 127; sign++) {
            if ("<=>".indexOf(sign) >= 0) {
                right("loud 1 c" + sign + "1");
                fault("loud 1 c" + sign, 9);
                fault("loud 1 c" + sign + sign, 9);
            } else {
                fault("loud 1 c" + sign + "1", 8);
            }
        }
        fault("loud 1 c<=1", 9);
        fault("loud 1 c=<1", 9);
        fault("loud 1 c<>1", 9);
        fault("loud 1 p1=1", 8);
        fault("loud 1 1=p", 7);
        fault("loud 1 p=k", 9);
        holds("p<2", "110000");
        holds("p=2", "001000");
        holds("p>2", "000111");
    }

    private static void open() {
        by(3, "At most 5 of ! and ( are open");
        for (int bits = 0; bits < 64; bits++) {
            StringBuilder opened = new StringBuilder();
            StringBuilder closed = new StringBuilder();
            for (int i = 0; i < 6; i++) {
                boolean not = (bits >> i & 1) == 1;
                opened.append(not ? '!' : '(');
                closed.append(not ? "" : ")");
            }
            fault("loud 1 " + opened + "p=1" + closed, 12);
            String five = opened.substring(0, 5);
            String ends = closed.substring(0, five.replace("!", "").length());
            right("loud 1 " + five + "p=1" + ends);
            right("loud 1 p=2&" + five + "p=1" + ends + "|p=3");
        }
        fault("loud 1 ((((((", 12);
        fault("loud 1 !!!!!!", 12);
        fault("loud 1 (((((", 12);
        fault("loud 1 !!!!!", 12);
        fault("loud 1 (((((x", 12);
        fault("loud 1 (((((p=1))))", 19);
        fault("loud 1 (((((p=1))))))", 20);
        holds("!!!!!p=1", "101111");
        holds("(((((p=1)))))", "010000");
        holds("!(!(!p=1))", "101111");
    }

    private static void openTill() {
        by(3, "(a ( till its ) , a ! till its F ends).");
        right("loud 1 (((((p=1)))))&(((((p=2)))))|(((((p=3)))))");
        right("loud 1 !!!!!p=1&!!!!!p=2|!!!!!p=3");
        right("loud 1 !p=1&!p=1&!p=1&!p=1&!p=1&!p=1&!p=1");
        right("loud 1 ((((!p=1&!p=2|!p=3))))");
        fault("loud 1 ((((!p=1&!!p=2))))", 17);
        fault("loud 1 ((((!p=1|!(p=2)))))", 17);
        right("loud 1 ((((p=1)&(p=2)|(p=3)&!p=4)))");
        right("loud 1 ((((p=1)&((p=2)))))");
        fault("loud 1 ((((p=1)&(((p=2))))))", 18);
        right("loud 1 !((((p=1))))&!((((p=2))))");
        fault("loud 1 !(((((p=1)))))", 12);
        fault("loud 1 !((((!p=1))))", 12);
        fault("loud 1 !((((p=1))&(((p=2)))))", 20);
        right("loud 1 !((((p=1))&((p=2))))");
        right("loud 1 !(!(!p=1&!p=2))&!(!(!p=3))");
        fault("loud 1 !(!(!p=1&!!p=2))", 17);
        fault("loud 1 !(!(!(p=1)))", 12);
        right("loud 1 !!(p=1)&!!!!!p=2");
        right("loud 1 !!!!(p=1)&(((((p=2)))))");
        right("loud 1 (((((p=1)))));loud 1 (((((p=1)))))");
        right("loud 1 !!!!!p=1;dull 1 !!!!!p=1");
        holds("(!p=1&!p=2)&!(p=3|!!!p=4)", "000010");
    }

    private static void firstByte() {
        by(3, "FAULT: the place of the first byte with which no LEDGE can go on");
        String text = "keep 12;pass 3;loud 45 !(p=1|k<2)&v>3;dull 6 c=78;keep 0";
        right(text);
        for (int i = 0; i < text.length(); i++) {
            for (char other : new char[] {0, '_', 127}) {
                fault(text.substring(0, i) + other + text.substring(i + 1), i);
                fault(text.substring(0, i) + other, i);
                fault(text.substring(0, i) + other + other, i);
            }
        }
        fault(text + "\0", text.length());
        fault(text + "0", text.length());
        fault("x", 0);
        fault("kx;keep 1", 1);
        fault("keep 1;loud", 11);
    }

    private static void endsTooEarly() {
        by(3, "(the size, if it ends too early).");
        String text = "keep 12;pass 3;loud 45 !(p=1|k<2)&v>3;dull 6 c=78";
        boolean[] whole = new boolean[50];
        for (int size : new int[] {6, 7, 14, 33, 37, 48, 49}) {
            whole[size] = true;
        }
        due("signs", text.length(), 49);
        for (int size = 0; size <= 49; size++) {
            if (whole[size]) {
                right(text.substring(0, size));
            } else {
                fault(text.substring(0, size), size);
            }
        }
        UrchinSchool x = new UrchinSchool();
        due("an empty tape", x.ledge(), -10);
        due("again", x.ledge(), -10);
        due("no ledge", x.count(1), 0);
    }

    private static void numbered() {
        by(3, "LEDGES are numbered from 0 on, 5 at most; the newest one holds; without one there are no CLAUSES.");
        UrchinSchool x = plain(1);
        due("without one: heed", x.of(0, 10), 3);
        for (int i = 0; i < 5; i++) {
            due("the next", write(x, "keep " + (9 - i) + ";loud " + (i + 1) + " p=0"), i);
            due("ledges", x.count(1), i + 1);
            due("the newest one's keep", x.told(1), 9 - i);
            due("the newest one's clauses, and no older one's", x.of(0, 10), 4 + i);
            due("a fault takes no number", write(x, "k"), i < 4 ? -11 : FULL);
        }
        due("the sixth", x.ledge(), FULL);
        due("ledges", x.count(1), 5);
        due("the fifth holds", x.told(1) * 100 + x.of(0, 10), 508);
    }

    private static void keepAndPass() {
        by(3, "KEEP (4 without), PASS (6 without): the last n of keep, of pass.");
        UrchinSchool x = new UrchinSchool();
        due("no ledge", x.told(1) * 100 + x.told(2), 406);
        write(x, "keep 7;pass 3;keep 0;pass 99;loud 50 p=0");
        due("the last of each", x.told(1) * 100 + x.told(2), 99);
        write(x, "keep 5");
        due("without pass, whatever the older one's", x.told(1) * 100 + x.told(2), 506);
        write(x, "pass 0");
        due("without keep", x.told(1) * 100 + x.told(2), 400);
        write(x, "loud 9 k=1;dull 8 p=2");
        due("without both", x.told(1) * 100 + x.told(2), 406);
        write(x, "pass 1;keep 99;pass 6;keep 4;keep 3");
        due("the last of each", x.told(1) * 100 + x.told(2), 306);
        UrchinSchool y = new UrchinSchool();
        write(y, "keep 9;pass 9;keep x");
        due("by a fault none", y.told(1) * 100 + y.told(2), 406);
        write(y, "pass 2");
        due("none is left of a fault's", y.told(1) * 100 + y.told(2), 402);
        write(y, "keep 9;pass 9;");
        write(y, "keep 2");
        due("none is left of a fault's", y.told(1) * 100 + y.told(2), 206);
    }
}
