import com.sun.management.ThreadMXBean;
import java.lang.management.ManagementFactory;

/** What an object takes up: something when it is made, nothing in any call. Bytes are counted by the machine. */
public final class RoomTest {
    private static final ThreadMXBean THREADS = (ThreadMXBean) ManagementFactory.getThreadMXBean();

    public static void main(String[] args) {
        calls(new UrchinSchool());
        long before = bytes();
        UrchinSchool x = new UrchinSchool();
        long made = bytes() - before;
        before = bytes();
        long sum = calls(x);
        long called = bytes() - before;
        System.out.println("an object: " + made + " bytes; its calls: " + called + " bytes, " + sum);
        Check.holds("an object is small", made < 40_000);
        Check.holds("calls make nothing", called < 2_000);
        Check.end("RoomTest");
    }

    private static long bytes() {
        return THREADS.getCurrentThreadAllocatedBytes();
    }

    private static long calls(UrchinSchool x) {
        long sum = 0;
        for (int i = 0; i < 6; i++) {
            sum += x.urchin(i + 1, i) + x.learn(i, 37 * i);
        }
        for (int ledge = 0; ledge < 5; ledge++) {
            sum += write(x, "keep 7;pass 5;loud 6 (p=1|f<3)&!c>4;dull 4 t=3|v>4&!(k=2|k=6)");
        }
        for (int i = 0; i < 5; i++) {
            sum += x.see(i, 12, i, i % 2 == 0) + x.plan(0, 0) + x.book(i, 37 * i) + x.lesson(i, i);
        }
        for (int i = 0; i < 20; i++) {
            sum += x.teach(3, i % 4 - 1) + x.tell(i % 8) + x.knew(i % 6, 1) + x.firm(i % 6, 1) + x.lasts(i % 8);
            sum += x.odds(i % 8, 60, 0) + x.on(60, 1) + x.done(1) + x.image() + x.act(i % 6, 2, i) + x.told(6);
            sum += x.pass(1) + x.undo() + x.looked() + x.mean(0);
        }
        return sum;
    }

    private static int write(UrchinSchool x, String text) {
        for (int i = 0; i < text.length(); i++) {
            x.feed(text.charAt(i));
        }
        return x.ledge();
    }
}
