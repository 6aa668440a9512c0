import java.lang.management.ManagementFactory;
import java.util.function.IntConsumer;

/**
 * All calls of one run live in one room of some 600,000 objects and 7.3 million fields and elements.
 * Here the bytes that 512 calls of one kind make are counted, and kept far below that.
 */
public final class RoomTest {
    private static final int CALLS = 512;

    /** About a tenth of the room's fields and elements, even if each had only a byte. */
    private static final long MOST_BYTES = 700000;

    private static int wrong = 0;

    private static long allocated() {
        com.sun.management.ThreadMXBean bean =
                (com.sun.management.ThreadMXBean) ManagementFactory.getThreadMXBean();
        return bean.getThreadAllocatedBytes(Thread.currentThread().getId());
    }

    private static void count(String name, IntConsumer call) {
        long before = allocated();
        for (int i = 0; i < CALLS; i++) {
            call.accept(i);
        }
        long bytes = allocated() - before;
        if (bytes > MOST_BYTES) {
            wrong++;
            System.out.println(CALLS + " calls of " + name + " made " + bytes + " bytes");
        }
    }

    private static SturmRoots planted(int... coefficients) {
        SturmRoots x = new SturmRoots();
        for (int i = 0; i < coefficients.length; i++) {
            x.set(0, i, coefficients[i]);
        }
        return x;
    }

    private static void bisectSomewhere(SturmRoots x, int call) {
        for (int i = x.intervals() - 1; i >= 0; i--) {
            int width = x.interval(i, 'n') - x.interval(i, 'm');
            if (width > 0 && x.interval(i, 'd') < 12 && (i + call) % 2 == 0) {
                x.bisect(i);
                return;
            }
        }
    }

    public static void main(String[] args) {
        SturmRoots warm = planted(97, -89, 83, 79, -73, 71, 67);
        warm.isTrue(0);
        count("SturmRoots()", i -> {
            if (i == 0) {
                new SturmRoots();
            }
        });
        count("sturmLength", i -> warm.sturmLength(0));
        count("isTrue", i -> warm.isTrue(0));
        count("gcd", i -> warm.gcd(0, 1, 2));
        count("isolate", i -> warm.isolate(0));
        count("checksum", i -> warm.checksum());
        SturmRoots roots = planted(0, -12, 4, 15, -5, -3, 1);
        count("countAll", i -> roots.countAll(0, -9, 1, 9, 1));
        roots.isolate(0);
        count("bisect", i -> bisectSomewhere(roots, i));
        SturmRoots power = planted(0, 0, 0, 0, 0, 0, 1);
        power.isolate(0);
        count("multiplicity", i -> power.multiplicity(0));
        System.out.println(wrong == 0 ? "the room is kept" : wrong + " calls take too much room");
        if (wrong != 0) {
            System.exit(1);
        }
    }
}
