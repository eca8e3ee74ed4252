import com.sun.management.ThreadMXBean;
import java.lang.management.ManagementFactory;

/** An object makes all its rows when it is made: its calls make no object and no array. */
public final class RoomTest {
    private static final int CALLS = 400;
    private static final long MOST_BYTES_OF_AN_OBJECT = 40000;

    private RoomTest() {
    }

    public static void main(String[] args) {
        ThreadMXBean threads = (ThreadMXBean) ManagementFactory.getThreadMXBean();
        long sum = runs(new PaySteer(2));
        long before = threads.getCurrentThreadAllocatedBytes();
        PaySteer x = new PaySteer(2);
        long made = threads.getCurrentThreadAllocatedBytes();
        long again = runs(x);
        long after = threads.getCurrentThreadAllocatedBytes();
        Due.is("the same answers", again, sum);
        Due.that("bytes of an object: " + (made - before), made - before < MOST_BYTES_OF_AN_OBJECT);
        Due.that("bytes of " + CALLS + " calls: " + (after - made), after - made < CALLS);
        Due.end("RoomTest");
    }

    private static long runs(PaySteer x) {
        long sum = 0;
        for (int i = 0; i < 4; i++) {
            sum += x.act(5 * i) + x.chances(i, 0, 0x3333 + i * (0x100 - 0x1)) + x.chances(i, 1, 0x1263);
        }
        for (int i = 0; i < CALLS / 25; i++) {
            sum = sum * 31 + acts(x, i % 4) + others(x, i);
        }
        return sum;
    }

    private static long acts(PaySteer x, int a) {
        return x.least(a, 3, -1, 0) + x.least(a, 1, 2, 1) + x.proof(a, 0, -1, 0) + x.best(0) + x.bestGain(1, 0)
                + x.coarser(a, 0, 0x1122, 0) + x.answer(0) + x.gain(a, 1) + x.year(0);
    }

    private static long others(PaySteer x, int i) {
        return x.menu(1, 2 + i, 1, 2, 5) + x.terms(0, 3, 3, 9, i) + x.promise(6, 0) + x.start(5) + x.holds(0, 0)
                + x.look(i + 1, i, 0) + x.calms() + x.calm(i) + x.feed(0x2873292b28732a76L, 8)
                + x.feed(0x2b6d696e28732c76L, 8) + x.feed(0x29, 1) + x.contract() + x.choose(0) + x.rates(0)
                + x.ratchet(0, i, 1, 2) + x.suspect(0, 1);
    }
}
