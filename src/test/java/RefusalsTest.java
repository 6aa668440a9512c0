import java.util.function.Supplier;

/**
 * Each range of the document, with the last value on either side that is taken and the first that is
 * refused; each "Throws" sentence by itself; each two or more of them that apply at once, where the
 * first one counts. Every refused call must leave the workbench as it was.
 */
public final class RefusalsTest extends TestBase {
    // What bench() holds in its slots ...
    private static final int CUBIC = 0;
    private static final int ZERO = 1;
    private static final int GREAT = 2;
    private static final int CONSTANT = 3;
    private static final int SQUARE = 4;

    // ... and in its intervals.
    private static final int FIRST = 0;
    private static final int TWO_ROOTS = 1;
    private static final int POINT = 2;
    private static final int LEVEL_12 = 3;
    private static final int EMPTY = 4;
    private static final int LAST = 5;

    private static final String BENCH_PARTS =
            "6:-512:-256=1 6:-256:0=2 1:0:0=1 12:5632:5888=1 7:512:768=0 7:768:1024=1";

    /** Makes the workbench on which a call is tried, anew for each call. */
    private static Supplier<SturmRoots> maker = RefusalsTest::bench;

    /**
     * Slots: (x - 1)^2 (x + 2), zero, 9999 (1 + x + ... + x^6), 7, x^2 - 2. The isolation is that of
     * x (x + 1) (x^2 - 2) (x^2 - 49), which is in no slot any more.
     */
    private static SturmRoots bench() {
        SturmRoots x = with(0, 98, 98, -51, -51, 1, 1);
        x.isolate(0);
        x.bisect(0);
        for (int i = 0; i < 5; i++) {
            x.bisect(i);
        }
        x.removeEmpty();
        for (int i = 0; i < 5; i++) {
            x.bisect(POINT + 1);
        }
        x.removeEmpty();
        x.bisect(LEVEL_12 + 1);
        x.refine(LEVEL_12, 6);
        putGreat(x, GREAT, 9999, 9999, 9999, 9999, 9999, 9999, 9999);
        put(x, CUBIC, 2, -3, 0, 1);
        put(x, CONSTANT, 7);
        put(x, SQUARE, -2, 0, 1);
        return x;
    }

    private static SturmRoots withoutIntervals() {
        SturmRoots x = with(1, 0, 1);
        x.isolate(0);
        x.removeEmpty();
        return x;
    }

    /** Slots 0 and 1: polynomials with the common divisor 5001 - 10000 x + 5001 x^2. */
    private static SturmRoots withGreatDivisor() {
        SturmRoots x = withGreat(5001, -4999, -4999, 5001);
        putGreat(x, 1, 5001, -4999, 2, -4999, 5001);
        return x;
    }

    /** Slot 0: a polynomial with the square-free part -5001 - 10000 x - 4999 x^2 + ... + 5001 x^5. */
    private static SturmRoots withGreatSquareFreePart() {
        return withGreat(5001, 4999, -5001, -9999, -4999, 4998, 5001);
    }

    // ---- calls that are taken or refused

    private static void taken(String name, int... arguments) {
        SturmRoots x = maker.get();
        due(written(name, arguments), "an answer", () -> {
            call(x, name, arguments);
            return "an answer";
        });
    }

    private static void refused(Class<?> want, String name, int... arguments) {
        SturmRoots x = maker.get();
        SturmRoots untouched = maker.get();
        due(written(name, arguments), want, () -> call(x, name, arguments));
        due("the state after " + written(name, arguments), state(untouched), () -> state(x));
        due("calls after " + written(name, arguments), aftermath(untouched), () -> aftermath(x));
    }

    /** One argument is taken from low to high; beyond them, and far beyond, the call is refused. */
    private static void range(int position, int low, int high, Class<?> want, String name, int... arguments) {
        for (int good : new int[] {low, high}) {
            int[] changed = arguments.clone();
            changed[position] = good;
            taken(name, changed);
        }
        for (int bad : new int[] {low - 1, high + 1, LEAST, GREATEST}) {
            int[] changed = arguments.clone();
            changed[position] = bad;
            refused(want, name, changed);
        }
    }

    /** The first so many arguments are slots, of which the last one may be where a result is stored. */
    private static void slots(int count, String name, int... arguments) {
        for (int position = 0; position < count; position++) {
            range(position, 0, 4, INDEX, name, arguments);
        }
    }

    // ---- ranges

    private static void rangesOfPolynomials() {
        range(0, 0, 4, INDEX, "set", 2, 3, 5);
        range(1, 0, 6, INDEX, "set", 2, 3, 5);
        range(2, -99, 99, ARGUMENT, "set", 2, 3, 5);
        range(0, 0, 4, INDEX, "coefficient", 2, 3);
        range(1, 0, 6, INDEX, "coefficient", 2, 3);
        slots(1, "degree", 2);
        slots(2, "copy", 2, 2);
        slots(3, "add", CUBIC, CUBIC, CUBIC);
        slots(3, "multiply", CUBIC, CUBIC, CUBIC);
        slots(2, "derivative", CUBIC, CUBIC);
        range(0, 0, 4, INDEX, "shift", CUBIC, 1, CUBIC);
        range(1, -9, 9, ARGUMENT, "shift", CUBIC, 1, CUBIC);
        range(2, 0, 4, INDEX, "shift", CUBIC, 1, CUBIC);
        slots(2, "reflect", CUBIC, CUBIC);
        range(0, 0, 4, INDEX, "scale", CUBIC, 3, CUBIC);
        range(1, 2, 9, ARGUMENT, "scale", CUBIC, 3, CUBIC);
        range(2, 0, 4, INDEX, "scale", CUBIC, 3, CUBIC);
        slots(3, "gcd", CUBIC, CUBIC, CUBIC);
        slots(2, "squareFreePart", CUBIC, CUBIC);
    }

    private static void rangesOfSequencesAndRoots() {
        slots(1, "sturmLength", CUBIC);
        slots(1, "sturmCoefficient", CUBIC, 0, 0);
        range(1, 0, 2, NO_ELEMENT, "sturmCoefficient", CUBIC, 0, 0);
        range(2, 0, 6, INDEX, "sturmCoefficient", CUBIC, 0, 0);
        slots(1, "sturmDegree", CUBIC, 0);
        range(1, 0, 2, NO_ELEMENT, "sturmDegree", CUBIC, 0);
        range(1, 0, 0, NO_ELEMENT, "sturmDegree", CONSTANT, 0);
        for (String name : new String[] {"signChanges", "sign"}) {
            slots(1, name, CUBIC, 5, 1);
            range(1, -1000000, 1000000, ARGUMENT, name, CUBIC, 5, 0);
            range(1, -1000000, 1000000, ARGUMENT, name, GREAT, 5, 12);
            range(2, 0, 12, ARGUMENT, name, CUBIC, 5, 1);
        }
        for (String name : new String[] {"countDistinct", "countAll"}) {
            slots(1, name, CUBIC, -9, 0, 9, 0);
            range(1, -1000000, 1000000, ARGUMENT, name, SQUARE, 0, 1, 1000000, 0);
            range(2, 0, 12, ARGUMENT, name, SQUARE, -9, 0, 9, 0);
            range(3, -1000000, 1000000, ARGUMENT, name, SQUARE, -1000000, 0, 0, 1);
            range(4, 0, 12, ARGUMENT, name, SQUARE, -9, 0, 9, 0);
        }
        slots(1, "distinctRoots", CUBIC);
        slots(1, "coefficientSignChanges", CUBIC);
        slots(1, "isTrue", CUBIC);
    }

    private static void rangesOfIsolations() {
        slots(1, "isolate", CUBIC);
        range(0, 0, LAST, INDEX, "rootsIn", 0);
        range(0, 0, LAST, INDEX, "interval", 0, 'd');
        range(0, 0, LAST, INDEX, "bisect", 0);
        range(0, 0, LAST, INDEX, "refine", 0, 1);
        range(1, 1, 6, ARGUMENT, "refine", FIRST, 1);
        range(0, 0, LAST, INDEX, "multiplicity", 0);
        for (int which = 0; which < 65536; which = which < 200 ? which + 1 : 3 * which) {
            if (which == 'd' || which == 'm' || which == 'n') {
                taken("interval", POINT, which);
            } else {
                refused(ARGUMENT, "interval", POINT, which);
            }
        }
        refused(ARGUMENT, "interval", POINT, 65535);
        // Their lowest eight bits are those of d, m and n.
        refused(ARGUMENT, "interval", POINT, 'd' + 256);
        refused(ARGUMENT, "interval", POINT, 'm' + 512);
        refused(ARGUMENT, "interval", POINT, 'n' + 65280);
    }

    // ---- each "Throws" sentence by itself, where it is not about a range

    private static void rejectedResults() {
        refused(STATE, "add", GREAT, GREAT, GREAT);
        refused(STATE, "add", CONSTANT, GREAT, ZERO);
        refused(STATE, "multiply", GREAT, GREAT, GREAT);
        refused(STATE, "multiply", GREAT, SQUARE, SQUARE);
        refused(STATE, "multiply", CONSTANT, GREAT, CONSTANT);
        refused(STATE, "derivative", GREAT, GREAT);
        refused(STATE, "derivative", GREAT, ZERO);
        refused(STATE, "shift", GREAT, 9, GREAT);
        refused(STATE, "shift", GREAT, 1, ZERO);
        refused(STATE, "scale", GREAT, 2, GREAT);
        refused(STATE, "scale", GREAT, 9, CUBIC);
        maker = RefusalsTest::withGreatDivisor;
        refused(STATE, "gcd", 0, 1, 0);
        refused(STATE, "gcd", 1, 0, 1);
        refused(STATE, "gcd", 0, 1, 2);
        maker = RefusalsTest::withGreatSquareFreePart;
        refused(STATE, "squareFreePart", 0, 0);
        refused(STATE, "squareFreePart", 0, 1);
        maker = RefusalsTest::bench;
    }

    private static void zeroPolynomials() {
        refused(ARITHMETIC, "squareFreePart", ZERO, CUBIC);
        refused(ARITHMETIC, "squareFreePart", ZERO, ZERO);
        refused(ARITHMETIC, "sturmLength", ZERO);
        refused(ARITHMETIC, "sturmCoefficient", ZERO, 0, 0);
        refused(ARITHMETIC, "sturmDegree", ZERO, 0);
        refused(ARITHMETIC, "signChanges", ZERO, 0, 0);
        refused(ARITHMETIC, "countDistinct", ZERO, 0, 0, 1, 0);
        refused(ARITHMETIC, "countAll", ZERO, 0, 0, 1, 0);
        refused(ARITHMETIC, "distinctRoots", ZERO);
        refused(ARITHMETIC, "isolate", ZERO);
    }

    private static void pointsInOrder() {
        for (String name : new String[] {"countDistinct", "countAll"}) {
            refused(ARGUMENT, name, CUBIC, 3, 0, 3, 0);
            refused(ARGUMENT, name, CUBIC, 3, 0, 12288, 12);
            refused(ARGUMENT, name, CUBIC, -12288, 12, -3, 0);
            refused(ARGUMENT, name, CUBIC, 0, 12, 0, 0);
            refused(ARGUMENT, name, CUBIC, 3, 0, 12287, 12);
            refused(ARGUMENT, name, CUBIC, -12287, 12, -3, 0);
            taken(name, CUBIC, 3, 0, 12289, 12);
            taken(name, CUBIC, -12289, 12, -3, 0);
            taken(name, CUBIC, 12287, 12, 3, 0);
            taken(name, CUBIC, 0, 12, 1, 12);
            // What is compared here needs more than 32 bits.
            refused(ARGUMENT, name, CUBIC, 1000000, 0, 1000000, 12);
            refused(ARGUMENT, name, CUBIC, 524288, 0, 999999, 12);
            refused(ARGUMENT, name, CUBIC, -999999, 12, -524289, 0);
            refused(ARGUMENT, name, CUBIC, 1000000, 0, 999999, 0);
            taken(name, CUBIC, 999999, 0, 1000000, 0);
            taken(name, CUBIC, -1000000, 0, -1000000, 12);
            taken(name, CUBIC, 1000000, 12, 1000000, 0);
            taken(name, CUBIC, -524289, 0, 999999, 12);
        }
    }

    private static void pointsThatAreRoots() {
        for (String name : new String[] {"countDistinct", "countAll"}) {
            refused(STATE, name, CUBIC, 1, 0, 9, 0);
            refused(STATE, name, CUBIC, -9, 0, 1, 0);
            refused(STATE, name, CUBIC, -2, 0, 0, 0);
            refused(STATE, name, CUBIC, -9, 0, -2, 0);
            refused(STATE, name, CUBIC, -2, 0, 1, 0);
            refused(STATE, name, CUBIC, -8192, 12, 4096, 12);
            taken(name, CUBIC, -8191, 12, 4095, 12);
            taken(name, CUBIC, -8193, 12, 4097, 12);
            taken(name, CONSTANT, -1, 0, 1, 0);
        }
    }

    private static void intervalsThatAreRefused() {
        refused(STATE, "bisect", POINT);
        refused(STATE, "bisect", LEVEL_12);
        taken("bisect", EMPTY);
        taken("bisect", TWO_ROOTS);
        refused(STATE, "refine", POINT, 1);
        refused(STATE, "refine", TWO_ROOTS, 1);
        refused(STATE, "refine", EMPTY, 1);
        refused(STATE, "refine", LEVEL_12, 1);
        // The levels are 6 and 7.
        taken("refine", FIRST, 6);
        taken("refine", LAST, 5);
        refused(STATE, "refine", LAST, 6);
        refused(STATE, "multiplicity", TWO_ROOTS);
        refused(STATE, "multiplicity", EMPTY);
        taken("multiplicity", POINT);
        taken("multiplicity", LEVEL_12);
    }

    /** With an isolation whose list is empty, or without one, there is no index that is taken. */
    private static void noIntervals() {
        for (int index : new int[] {0, -1, 1, LEAST, GREATEST}) {
            refused(INDEX, "rootsIn", index);
            refused(INDEX, "interval", index, 'd');
            refused(INDEX, "interval", index, 'x');
            refused(INDEX, "bisect", index);
            refused(INDEX, "refine", index, 1);
            refused(INDEX, "refine", index, 0);
            refused(INDEX, "refine", index, 7);
            refused(INDEX, "multiplicity", index);
        }
    }

    // ---- several sentences at once

    private static void indexFirst() {
        for (int bad : new int[] {-1, 5, LEAST, GREATEST}) {
            for (int value : new int[] {-100, 100, LEAST, GREATEST}) {
                refused(INDEX, "set", bad, 0, value);
                refused(INDEX, "set", 0, bad == 5 ? 7 : bad, value);
            }
            refused(INDEX, "add", GREAT, GREAT, bad);
            refused(INDEX, "multiply", GREAT, GREAT, bad);
            refused(INDEX, "derivative", GREAT, bad);
            refused(INDEX, "shift", GREAT, 9, bad);
            refused(INDEX, "scale", GREAT, 9, bad);
            refused(INDEX, "squareFreePart", ZERO, bad);
            for (int argument : new int[] {-10, 10, LEAST, GREATEST}) {
                refused(INDEX, "shift", bad, argument, 0);
                refused(INDEX, "shift", CUBIC, argument, bad);
                refused(INDEX, "shift", GREAT, argument, bad);
                refused(INDEX, "scale", bad, argument, 0);
                refused(INDEX, "scale", CUBIC, argument, bad);
                refused(INDEX, "scale", GREAT, argument, bad);
            }
            refused(INDEX, "scale", CUBIC, 1, bad);
            refused(INDEX, "sturmCoefficient", bad, -1, 0);
            refused(INDEX, "sturmCoefficient", bad, 3, 7);
            refused(INDEX, "sturmDegree", bad, -1);
            refused(INDEX, "sturmDegree", bad, 7);
            for (String name : new String[] {"signChanges", "sign"}) {
                refused(INDEX, name, bad, 1000001, 0);
                refused(INDEX, name, bad, 0, 13);
                refused(INDEX, name, bad, -1000001, -1);
            }
            for (String name : new String[] {"countDistinct", "countAll"}) {
                refused(INDEX, name, bad, -1000001, 0, 1, 0);
                refused(INDEX, name, bad, 0, -1, 1, 0);
                refused(INDEX, name, bad, 0, 0, 1000001, 0);
                refused(INDEX, name, bad, 0, 0, 1, 13);
                refused(INDEX, name, bad, 1, 0, 0, 0);
            }
        }
        for (int bad : new int[] {-1, 7, LEAST, GREATEST}) {
            refused(INDEX, "sturmCoefficient", ZERO, 0, bad);
            refused(INDEX, "sturmCoefficient", ZERO, -1, bad);
            refused(INDEX, "sturmCoefficient", CUBIC, -1, bad);
            refused(INDEX, "sturmCoefficient", CUBIC, 3, bad);
        }
        for (int bad : new int[] {-1, LAST + 1, LEAST, GREATEST}) {
            refused(INDEX, "interval", bad, 'x');
            refused(INDEX, "refine", bad, 0);
            refused(INDEX, "refine", bad, 7);
        }
    }

    private static void indexBeforeARejectedResult() {
        for (int bad : new int[] {-1, 5, LEAST, GREATEST}) {
            maker = RefusalsTest::withGreatDivisor;
            refused(INDEX, "gcd", 0, 1, bad);
            maker = RefusalsTest::withGreatSquareFreePart;
            refused(INDEX, "squareFreePart", 0, bad);
            maker = RefusalsTest::bench;
        }
    }

    private static void argumentFirst() {
        for (int bad : new int[] {-10, 10, LEAST, GREATEST}) {
            refused(ARGUMENT, "shift", GREAT, bad, GREAT);
            refused(ARGUMENT, "scale", GREAT, bad, GREAT);
        }
        refused(ARGUMENT, "scale", GREAT, 1, GREAT);
        refused(ARGUMENT, "signChanges", ZERO, 1000001, 0);
        refused(ARGUMENT, "signChanges", ZERO, 0, -1);
        for (String name : new String[] {"countDistinct", "countAll"}) {
            for (int slot : new int[] {ZERO, CUBIC}) {
                // Of the points, 1 is a root of the cubic, and each is one of zero.
                refused(ARGUMENT, name, slot, -1000001, 0, 1, 0);
                refused(ARGUMENT, name, slot, 1, 0, 1000001, 0);
                refused(ARGUMENT, name, slot, 0, 13, 1, 0);
                refused(ARGUMENT, name, slot, 1, 0, 2, -1);
                refused(ARGUMENT, name, slot, 1, 0, 1, 0);
                refused(ARGUMENT, name, slot, 1, 0, -2, 0);
                refused(ARGUMENT, name, slot, 4096, 12, 2, 1);
            }
        }
        for (int index : new int[] {POINT, TWO_ROOTS, EMPTY, LEVEL_12}) {
            for (int times : new int[] {0, 7, -1, LEAST, GREATEST}) {
                refused(ARGUMENT, "refine", index, times);
            }
        }
        // 7 times would also lead beyond the level 12.
        refused(ARGUMENT, "refine", LAST, 7);
    }

    private static void arithmeticFirst() {
        for (int index : new int[] {-1, 1, 7, LEAST, GREATEST}) {
            refused(ARITHMETIC, "sturmCoefficient", ZERO, index, 0);
            refused(ARITHMETIC, "sturmDegree", ZERO, index);
        }
        // Every point is a root of zero.
        refused(ARITHMETIC, "countDistinct", ZERO, -1000000, 0, 1000000, 0);
        refused(ARITHMETIC, "countAll", ZERO, -1000000, 0, 1000000, 0);
    }

    public static void main(String[] args) {
        begin("the bench");
        due("its intervals", BENCH_PARTS, () -> parts(bench()));
        begin("ranges");
        rangesOfPolynomials();
        rangesOfSequencesAndRoots();
        rangesOfIsolations();
        begin("one sentence");
        rejectedResults();
        zeroPolynomials();
        pointsInOrder();
        pointsThatAreRoots();
        intervalsThatAreRefused();
        begin("no isolation");
        maker = SturmRoots::new;
        noIntervals();
        begin("an empty list of intervals");
        maker = RefusalsTest::withoutIntervals;
        noIntervals();
        maker = RefusalsTest::bench;
        begin("several sentences");
        indexFirst();
        indexBeforeARejectedResult();
        argumentFirst();
        arithmeticFirst();
        finish();
    }
}
