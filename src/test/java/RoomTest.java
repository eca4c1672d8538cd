import java.lang.management.ManagementFactory;

/** All calls of a run live in one room: constructors alone may make objects. */
public final class RoomTest {
    private static final String TEXT = "g5 4;o0 1 1;o1 2 2;c0 0;c3 3;w1;";
    private static final int ROUNDS = 20000;
    private static final long BYTES_OF_ONE_OBJECT = 16;
    private static final Due DUE = new Due("RoomTest");

    private static long sum;

    public static void main(String[] args) {
        WindFrontiers w = new WindFrontiers();
        callAll(w);
        long ahead = allocated();
        for (int i = 0; i < ROUNDS; i++) {
            callAll(w);
        }
        long made = allocated() - ahead;
        DUE.is("bytes made in " + ROUNDS + " rounds of all calls (" + made + "): many",
                made >= ROUNDS * BYTES_OF_ONE_OBJECT ? 1 : 0, 0);
        DUE.is("the calls answered", sum == 0 ? 0 : 1, 1);
        DUE.end();
    }

    private static long allocated() {
        com.sun.management.ThreadMXBean threads =
                (com.sun.management.ThreadMXBean) ManagementFactory.getThreadMXBean();
        return threads.getThreadAllocatedBytes(Thread.currentThread().getId());
    }

    private static void callAll(WindFrontiers w) {
        w.clear();
        for (int i = 0; i < TEXT.length(); i++) {
            w.type(TEXT.charAt(i));
        }
        sum += w.strand();
        sum += w.takes(2, 0, 0) + w.leaves(1, 1) + w.puts(1, 2, 1) + w.veers() + w.tide(1);
        sum += w.cell(1, 1, 0) + w.family(1, 1) + w.now(5) + w.water(0, 3, 3);
        sum += w.help(1, 1) + w.odds(2, 2, 3, 6, 0) + w.saw(2, 2, 1, 1) + w.moved(0) + w.forget();
        sum += w.mark(3, 1, 1) + w.mark(4, 1, 1) + w.mark(5, 1, 1) + w.keep(0) + w.undo() + w.back(0);
        sum += w.count(3) + w.trace() + w.clear();
    }
}
