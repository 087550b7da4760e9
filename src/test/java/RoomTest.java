import com.sun.management.ThreadMXBean;
import java.lang.management.ManagementFactory;

/** 512 calls of the dearest kind on the largest object: they end soon, and make no objects of their own. */
final class RoomTest {
    private static final long MOST_BYTES_OF_AN_OBJECT = 100_000;
    private static final long MOST_BYTES_OF_CALLS = 10_000;

    public static void main(String[] args) {
        ThreadMXBean threads = (ThreadMXBean) ManagementFactory.getThreadMXBean();
        long me = Thread.currentThread().getId();
        warm();
        long before = threads.getThreadAllocatedBytes(me);
        Latticehear x = new Latticehear();
        long made = threads.getThreadAllocatedBytes(me) - before;
        Check.that("a new object has " + made + " bytes", made <= MOST_BYTES_OF_AN_OBJECT);
        fill(x);
        before = threads.getThreadAllocatedBytes(me);
        long sum = 0;
        for (int call = 0; call < 250; call++) {
            x.shift(0, call % 3, call);
            sum += one(x, call);
        }
        long more = threads.getThreadAllocatedBytes(me) - before;
        Check.that("the calls made " + more + " bytes", more <= MOST_BYTES_OF_CALLS);
        Check.that("they answered", sum != 0);
        Check.end();
    }

    private static void warm() {
        Latticehear x = new Latticehear();
        fill(x);
        for (int call = 0; call < 12; call++) {
            one(x, call);
        }
    }

    private static void fill(Latticehear x) {
        for (int s = 0; s < 6; s++) {
            x.sound(s, -s, 2 * s, s + 1);
            x.question(s, Latticehear.LEFT, 21, 3);
            x.question(s, Latticehear.RIGHT, 42, 5);
        }
        for (int w = 0; w < 5; w++) {
            SoundsTest.type(x, "fdab");
            x.word(w);
            SoundsTest.type(x, "fe");
            x.saying(w, w);
        }
        for (int f = 0; f < 16; f++) {
            x.frame(f % 5, f % 7, f % 3);
        }
    }

    private static long one(Latticehear x, int call) {
        switch (call % 12) {
            case 0: return x.weightAnew(1234);
            case 1: return x.best(777);
            case 2: return x.found(Long.MAX_VALUE, 99, 1);
            case 3: return x.arcs(100);
            case 4: return x.arc(100000000L, 300, 3);
            case 5: return x.keyword(4);
            case 6: return x.sure(1000, 8);
            case 7: return x.path(15, 4);
            case 8: return x.errors(5432);
            case 9: return x.fit();
            case 10: return x.weight(5555);
            default: return x.sum(8);
        }
    }
}
