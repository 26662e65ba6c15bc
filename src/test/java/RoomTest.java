import com.sun.management.ThreadMXBean;
import java.lang.management.ManagementFactory;

/** No call but the constructor makes objects, and a new object is small: all calls of a run share one room. */
final class RoomTest {
    private static final int MOST_BYTES_OF_AN_OBJECT = 40000;

    public static void main(String[] args) {
        ThreadMXBean threads = (ThreadMXBean) ManagementFactory.getThreadMXBean();
        useAll(new CallRouter());
        long start = threads.getCurrentThreadAllocatedBytes();
        CallRouter x = new CallRouter();
        long made = threads.getCurrentThreadAllocatedBytes();
        useAll(x);
        long used = threads.getCurrentThreadAllocatedBytes();
        System.out.println("a new object: " + (made - start) + " bytes, its calls: " + (used - made));
        Check.dueTrue("a new object is small", made - start <= MOST_BYTES_OF_AN_OBJECT);
        Check.dueTrue("calls make no objects", used - made <= 1000);
        Check.finish();
    }

    private static void useAll(CallRouter x) {
        for (int i = 0; i < 9; i++) {
            x.addSwitch();
        }
        for (int i = 0; i < 41; i++) {
            x.addRoute(i % 8, 0, (i % 8 + 1 + i / 8) % 8, i, 20);
        }
        for (int n = 1; n < 32; n++) {
            x.port(n, n % 8);
        }
        for (int i = 0; i < 15; i++) {
            x.setLookup(i % 3, true);
            x.setCodes(i % 8, 62);
            x.setLimit(6);
            x.setCost(i, i % 3, i);
            x.call(i % 8, i + 1);
            x.call(i % 8, i + 100);
            x.cheapest(i % 8, i + 100);
            x.choice(i % 8, i + 100, 3);
            x.pass(500);
            x.end(i / 3);
            x.unport(i);
            type(x);
            x.run();
            x.clear();
            x.undo();
            x.fingerprint();
        }
    }

    private static void type(CallRouter x) {
        x.type('l');
        x.type('0');
        x.type(';');
        x.type('p');
        x.type('7');
        x.type('>');
        x.type('1');
    }
}
