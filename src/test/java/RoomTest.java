import com.sun.management.ThreadMXBean;
import java.lang.management.ManagementFactory;

/** All calls of a run live in one room: what an object takes of it is small, and calls take nothing more. */
public final class RoomTest {
    private static final ThreadMXBean THREADS = (ThreadMXBean) ManagementFactory.getThreadMXBean();
    private static final String[] TYPES = {"[*B]", "{?1:C,*y:y}/#1(A)/i", "(A/t)/\"a\""};
    /** Bytes, and how many of them. */
    private static final long[][] ITEMS = {{0x0581, 2}, {0x60, 1}, {0x8001A1, 3}, {0x00C1, 2}, {0x616181, 3}};

    private static int answers = 0;

    private static long taken() {
        return THREADS.getThreadAllocatedBytes(Thread.currentThread().getId());
    }

    private static void type(ShapedItems x, String text) {
        for (int i = 0; i < text.length(); i++) {
            x.type(text.charAt(i));
        }
    }

    /** Calls of every sort, none of which throws. */
    private static void calls(ShapedItems x) {
        for (int rule = 0; rule < TYPES.length; rule++) {
            x.forget(rule);
            type(x, TYPES[rule]);
            answers += x.rule(rule);
        }
        for (long[] item : ITEMS) {
            answers += x.wipe() + x.feed(item[0], (int) item[1]);
            for (int k = 0; k < x.items(); k++) {
                answers += x.major(k) + (int) x.number(k) + x.depth(k);
                answers += x.matchesAt(k % 3, k) ? 1 : 0;
            }
            for (int rule = 0; rule < 3; rule++) {
                answers += x.check(rule) + (x.matches(rule) ? 1 : 0);
            }
        }
    }

    private static long takenByObject() {
        long before = taken();
        ShapedItems x = new ShapedItems();
        answers += x.wipe();
        return taken() - before;
    }

    private static long takenByCalls(ShapedItems x) {
        long before = taken();
        for (int i = 0; i < 100; i++) {
            calls(x);
        }
        return taken() - before;
    }

    public static void main(String[] args) {
        ShapedItems x = new ShapedItems();
        calls(x);
        takenByObject();
        takenByCalls(x);
        long object = takenByObject();
        long calls = takenByCalls(x);
        System.out.println("an object takes " + object + " bytes, its calls " + calls + " (" + answers + ")");
        Due.due("an object takes less than 32768 bytes", true, () -> object < 32768);
        Due.due("100 rounds of calls take nothing to speak of", true, () -> calls < 1000);
        Due.end();
    }
}
