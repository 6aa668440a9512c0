import java.lang.management.ManagementFactory;
import java.util.function.IntConsumer;

/**
 * All calls of one run live in one room of some 600,000 objects and 7.3 million fields and elements.
 * Here the bytes that 512 calls of one kind make are counted, for each call of the face, and kept far
 * below that.
 */
public final class RoomTest extends TestBase {
    private static final int CALLS = 512;

    /** Some 200 bytes a call: less than a polynomial takes, and more than two intervals. */
    private static final long MOST_BYTES = 100000;

    /** An exception with its trace takes more: still about a tenth of the room, if each field had a byte. */
    private static final long MOST_BYTES_OF_REFUSALS = 700000;

    private static final int[] GREAT = {9999, -9973, 9967, 9949, -9941, 9931, 9929};

    /** Each call with arguments for which it has the most to do: slot 0 is GREAT, slot 1 has six roots. */
    private static final Object[][] CALLS_THAT_ANSWER = {
        {"set", 2, 6, 99}, {"coefficient", 0, 6}, {"degree", 0}, {"copy", 0, 2}, {"add", 1, 1, 2}, {"multiply", 3, 3, 2},
        {"derivative", 1, 2}, {"shift", 1, 1, 2}, {"reflect", 0, 2}, {"scale", 3, 9, 2}, {"gcd", 0, 1, 2},
        {"squareFreePart", 0, 2}, {"sturmLength", 0}, {"sturmCoefficient", 0, 5, 1}, {"sturmDegree", 0, 5},
        {"signChanges", 0, 999999, 12}, {"sign", 0, 999999, 12}, {"countDistinct", 0, -999999, 12, 999999, 12},
        {"countAll", 0, -999999, 12, 999999, 12}, {"countAll", 4, -999999, 12, 999999, 12}, {"distinctRoots", 0},
        {"coefficientSignChanges", 0}, {"isolate", 0}, {"intervals"}, {"rootsIn", 0}, {"interval", 0, (int) 'm'},
        {"removeEmpty"}, {"isTrue", 0}, {"checksum"},
    };

    private static final Object[][] CALLS_THAT_ARE_REFUSED = {
        {"set", 5, 0, 0}, {"set", 0, 0, 100}, {"multiply", 0, 0, 0}, {"scale", 0, 9, 0}, {"sturmLength", 2},
        {"sturmCoefficient", 0, 7, 0}, {"countAll", 0, 1, 0, 0, 0}, {"countAll", 4, 0, 0, 1, 0}, {"isolate", 2},
        {"bisect", 1}, {"refine", 0, 7}, {"interval", 0, (int) 'x'},
    };

    private static int wrong = 0;

    private static long allocated() {
        com.sun.management.ThreadMXBean bean =
                (com.sun.management.ThreadMXBean) ManagementFactory.getThreadMXBean();
        return bean.getThreadAllocatedBytes(Thread.currentThread().getId());
    }

    private static void count(String name, IntConsumer call) {
        count(name, call, MOST_BYTES);
    }

    private static void count(String name, IntConsumer call, long most) {
        long before = allocated();
        for (int i = 0; i < CALLS; i++) {
            call.accept(i);
        }
        long bytes = allocated() - before;
        if (bytes > most) {
            wrong++;
            System.out.println(CALLS + " calls of " + name + " made " + bytes + " bytes");
        }
    }

    /** Slots: great numbers, six roots, zero, 99 x^3 + ... + 1, and x^6. */
    private static SturmRoots bench() {
        SturmRoots x = withGreat(GREAT);
        put(x, 1, 0, -12, 4, 15, -5, -3, 1);
        put(x, 3, 1, 1, 1, 99);
        put(x, 4, 0, 0, 0, 0, 0, 0, 1);
        x.isolate(0);
        return x;
    }

    private static boolean isRefused(SturmRoots x, String name, int[] arguments) {
        try {
            call(x, name, arguments);
            return false;
        } catch (RuntimeException thrown) {
            return true;
        }
    }

    private static void bisectSomewhere(SturmRoots x, int call) {
        for (int i = x.intervals() - 1; i >= 0; i--) {
            int width = x.interval(i, 'n') - x.interval(i, 'm');
            if (width > 0 && x.interval(i, 'd') < 12 && (i + call) % 2 == 0) {
                x.bisect(i);
                return;
            }
        }
    }

    private static void eachCall() {
        for (boolean refused : new boolean[] {false, true}) {
            for (Object[] row : refused ? CALLS_THAT_ARE_REFUSED : CALLS_THAT_ANSWER) {
                SturmRoots x = bench();
                String name = (String) row[0];
                int[] arguments = argumentsOf(row);
                if (isRefused(x, name, arguments) != refused) {
                    wrong++;
                    System.out.println(written(name, arguments) + " is not counted: it is refused, or should be");
                }
                count(written(name, arguments), i -> isRefused(x, name, arguments),
                        refused ? MOST_BYTES_OF_REFUSALS : MOST_BYTES);
            }
        }
    }

    private static void callsOfIsolations() {
        SturmRoots roots = with(0, -12, 4, 15, -5, -3, 1);
        roots.isolate(0);
        count("bisect", i -> bisectSomewhere(roots, i));
        SturmRoots power = with(0, 0, 0, 0, 0, 0, 1);
        power.isolate(0);
        count("multiplicity", i -> power.multiplicity(0));
        SturmRoots one = with(-1, 3);
        count("isolate and refine", i -> {
            if (one.intervals() == 0 || one.interval(0, 'd') > 6) {
                one.isolate(0);
            }
            one.refine(0, 6);
        });
        SturmRoots none = with(1, 0, 1);
        count("isolate and removeEmpty", i -> {
            none.isolate(0);
            none.removeEmpty();
        });
    }

    private static void wholeRun() {
        SturmRoots[] x = new SturmRoots[1];
        count("a whole run", i -> {
            if (i == 0) {
                x[0] = bench();
            }
            x[0].isTrue(i % 2);
            bisectSomewhere(x[0], i);
        });
    }

    public static void main(String[] args) {
        // What the machine makes when it meets a class or a call for the first time is not the class's.
        bench().isTrue(0);
        bisectSomewhere(bench(), 0);
        count("SturmRoots()", i -> {
            if (i == 0) {
                new SturmRoots();
            }
        });
        eachCall();
        callsOfIsolations();
        wholeRun();
        System.out.println(wrong == 0 ? "the room is kept" : wrong + " calls take too much room, or are not counted");
        if (wrong != 0) {
            System.exit(1);
        }
    }
}
