import java.util.Random;

/** Arguments of any size, in any state, past the 512th call too: nothing may be thrown, whatever is answered. */
public final class OddCallsTest {
    private static final int OBJECTS = 300;
    private static final int CALLS = 700;
    private static final int[] ODD = {Integer.MIN_VALUE, Integer.MIN_VALUE + 1, Integer.MIN_VALUE + 10, -1000, -11, -10,
        -2, -1, 0, 1, 2, 3, 4, 5, 6, 7, 8, 9, 10, 11, 12, 13, 15, 17, 18, 20, 57, 60, 61, 99, 100, 127, 128, 255, 256,
        9999, 10000, Integer.MAX_VALUE - 1, Integer.MAX_VALUE};

    private final Random random;
    private final UrchinSchool x = new UrchinSchool();

    private OddCallsTest(int seed) {
        random = new Random(seed);
    }

    public static void main(String[] args) {
        for (int i = 0; i < OBJECTS; i++) {
            OddCallsTest test = new OddCallsTest(i);
            Check.holds("object " + i, test.goesOn());
        }
        Check.end("OddCallsTest");
    }

    private boolean goesOn() {
        for (int i = 0; i < CALLS; i++) {
            try {
                call(random.nextInt(40));
            } catch (RuntimeException | Error thrown) {
                thrown.printStackTrace(System.out);
                return false;
            }
        }
        return true;
    }

    private int n() {
        return random.nextInt(12) == 0 ? random.nextInt() : ODD[random.nextInt(ODD.length)];
    }

    private int small() {
        return random.nextInt(4) == 0 ? n() : random.nextInt(8);
    }

    private long call(int which) {
        switch (which) {
            case 0: return x.feed(n());
            case 1: return x.ledge();
            case 2: return x.urchin(small(), small());
            case 3: return x.of(small(), n());
            case 4: return x.row(small(), small(), n());
            case 5: return x.learn(small(), n());
            case 6: return x.beach(small(), random.nextBoolean());
            case 7: return x.lesson(small(), small());
            case 8: return x.told(n());
            case 9: return x.pass(n());
            case 10: return x.on(n(), n());
            case 11: return x.lasts(n());
            case 12: return random.nextInt(10) == 0 ? x.teach(n(), n()) : 0;
            case 13: return x.tell(n());
            case 14: return x.see(small(), small(), small(), random.nextBoolean());
            case 15: return x.knew(small(), n());
            case 16: return x.firm(small(), n());
            case 17: return x.odds(small(), n(), small());
            case 18: return x.mean(n());
            case 19: return x.plan(small(), n());
            case 20: return x.done(n());
            case 21: return x.book(small(), n());
            case 22: return x.looked();
            case 23: return x.act(small(), n(), n());
            case 24: return x.trace(n());
            case 25: return x.as(small(), n());
            case 26: return x.image();
            case 27: return random.nextInt(5) == 0 ? x.undo() : 0;
            case 28: return x.count(n());
            case 29: return text(new Ledges(random).any());
            default: return x.feed("klpd;|&!()vfct<=>12 ".charAt(random.nextInt(20)));
        }
    }

    private long text(String text) {
        for (int i = 0; i < text.length(); i++) {
            x.feed(text.charAt(i));
        }
        return x.ledge();
    }
}
