import java.util.Arrays;
import java.util.NoSuchElementException;
import java.util.function.Supplier;

/** What the tests share: workbenches to begin with, what they hold as a text, and the comparison of answers. */
abstract class TestBase {
    static final Class<?> INDEX = IndexOutOfBoundsException.class;
    static final Class<?> ARGUMENT = IllegalArgumentException.class;
    static final Class<?> STATE = IllegalStateException.class;
    static final Class<?> ARITHMETIC = ArithmeticException.class;
    static final Class<?> NO_ELEMENT = NoSuchElementException.class;
    static final int LEAST = Integer.MIN_VALUE;
    static final int GREATEST = Integer.MAX_VALUE;

    private static int wrong = 0;
    private static String part = "";

    /** Tells of which part of the document the answers from here on are. */
    static void begin(String name) {
        part = name;
    }

    static void due(String call, Object want, Supplier<Object> answer) {
        Object got = outcome(answer);
        if (!String.valueOf(want).equals(String.valueOf(got))) {
            wrong++;
            System.out.println(part + ": " + call + " answered " + got + ", due is " + want);
        }
    }

    /** What a call answers, or the class of what it throws. */
    static Object outcome(Supplier<Object> answer) {
        try {
            return answer.get();
        } catch (RuntimeException thrown) {
            return isOwn(thrown) ? thrown.getClass() : "by itself " + thrown;
        }
    }

    /** Whether a throw statement of the class threw it, and not the machine or the library. */
    private static boolean isOwn(RuntimeException thrown) {
        StackTraceElement[] trace = thrown.getStackTrace();
        return trace.length > 0 && trace[0].getClassName().startsWith("SturmRoots")
                && !"/ by zero".equals(thrown.getMessage());
    }

    static void finish() {
        System.out.println(wrong == 0 ? "all answers are as due" : wrong + " answers are not as due");
        if (wrong != 0) {
            System.exit(1);
        }
    }

    /** A workbench with these coefficients, from the power 0 on, in slot 0. */
    static SturmRoots with(int... coefficients) {
        SturmRoots x = new SturmRoots();
        put(x, 0, coefficients);
        return x;
    }

    static void put(SturmRoots x, int slot, int... coefficients) {
        for (int i = 0; i < 7; i++) {
            x.set(slot, i, i < coefficients.length ? coefficients[i] : 0);
        }
    }

    private static int clamp(int value) {
        return Math.max(-99, Math.min(99, value));
    }

    /** A workbench with these coefficients, of up to 9999, in slot 0. */
    static SturmRoots withGreat(int... coefficients) {
        SturmRoots x = new SturmRoots();
        putGreat(x, 0, coefficients);
        return x;
    }

    /** Puts a polynomial with coefficients of up to 9999 into the slot 0, 1 or 2; clears 3 and 4. */
    static void putGreat(SturmRoots x, int slot, int... coefficients) {
        put(x, 3, 99);
        for (int i = 0; i < 7; i++) {
            x.set(4, i, i < coefficients.length ? clamp(coefficients[i] / 99) : 0);
        }
        x.multiply(3, 4, slot);
        // 9999 is 99 * 99 + 99 + 99, so what is missing is added in two steps.
        for (int step = 0; step < 2; step++) {
            for (int i = 0; i < 7; i++) {
                int want = i < coefficients.length ? coefficients[i] : 0;
                x.set(4, i, clamp(want - x.coefficient(slot, i)));
            }
            x.add(slot, 4, slot);
        }
        put(x, 3);
        put(x, 4);
    }

    static String text(SturmRoots x, int slot) {
        StringBuilder result = new StringBuilder();
        for (int i = 0; i <= 6; i++) {
            result.append(i == 0 ? "" : " ").append(x.coefficient(slot, i));
        }
        return result.toString();
    }

    static String part(SturmRoots x, int index) {
        return x.interval(index, 'd') + ":" + x.interval(index, 'm') + ":" + x.interval(index, 'n')
                + "=" + x.rootsIn(index);
    }

    static String parts(SturmRoots x) {
        StringBuilder result = new StringBuilder();
        for (int i = 0; i < x.intervals(); i++) {
            result.append(i == 0 ? "" : " ").append(part(x, i));
        }
        return result.toString();
    }

    // ---- calls by their names

    static Object call(SturmRoots x, String name, int... a) {
        switch (name) {
            case "set": return x.set(a[0], a[1], a[2]);
            case "coefficient": return x.coefficient(a[0], a[1]);
            case "degree": return x.degree(a[0]);
            case "copy": return x.copy(a[0], a[1]);
            case "add": return x.add(a[0], a[1], a[2]);
            case "multiply": return x.multiply(a[0], a[1], a[2]);
            case "derivative": return x.derivative(a[0], a[1]);
            case "shift": return x.shift(a[0], a[1], a[2]);
            case "reflect": return x.reflect(a[0], a[1]);
            case "scale": return x.scale(a[0], a[1], a[2]);
            case "gcd": return x.gcd(a[0], a[1], a[2]);
            case "squareFreePart": return x.squareFreePart(a[0], a[1]);
            case "sturmLength": return x.sturmLength(a[0]);
            case "sturmCoefficient": return x.sturmCoefficient(a[0], a[1], a[2]);
            case "sturmDegree": return x.sturmDegree(a[0], a[1]);
            case "signChanges": return x.signChanges(a[0], a[1], a[2]);
            case "sign": return x.sign(a[0], a[1], a[2]);
            case "countDistinct": return x.countDistinct(a[0], a[1], a[2], a[3], a[4]);
            case "countAll": return x.countAll(a[0], a[1], a[2], a[3], a[4]);
            case "distinctRoots": return x.distinctRoots(a[0]);
            case "coefficientSignChanges": return x.coefficientSignChanges(a[0]);
            case "isolate": return x.isolate(a[0]);
            case "intervals": return x.intervals();
            case "rootsIn": return x.rootsIn(a[0]);
            case "interval": return x.interval(a[0], (char) a[1]);
            case "bisect": return x.bisect(a[0]);
            case "refine": return x.refine(a[0], a[1]);
            case "removeEmpty": return x.removeEmpty();
            case "multiplicity": return x.multiplicity(a[0]);
            case "isTrue": return x.isTrue(a[0]);
            case "checksum": return x.checksum();
            default: throw new IllegalStateException("no such call: " + name);
        }
    }

    /** A row is the name of a call and its arguments. */
    static int[] argumentsOf(Object[] row) {
        int[] result = new int[row.length - 1];
        for (int i = 0; i < result.length; i++) {
            result[i] = (int) row[i + 1];
        }
        return result;
    }

    static String written(String name, int... arguments) {
        return name + Arrays.toString(arguments);
    }

    /** All that the calls of the face tell of a workbench without changing it. */
    static String state(SturmRoots x) {
        StringBuilder result = new StringBuilder();
        for (int slot = 0; slot < 5; slot++) {
            result.append(text(x, slot)).append(" (").append(x.degree(slot)).append("), ");
        }
        return result.append(parts(x)).append(", ").append(x.checksum()).toString();
    }

    /** What comes of later calls, which shows the polynomial that the isolation keeps. */
    static String aftermath(SturmRoots x) {
        StringBuilder result = new StringBuilder();
        for (int i = x.intervals() - 1; i >= 0; i--) {
            int index = i;
            result.append(outcome(() -> x.multiplicity(index))).append(' ');
            result.append(outcome(() -> x.refine(index, 4))).append(' ');
            result.append(outcome(() -> x.bisect(index))).append(' ');
        }
        return result.append(x.removeEmpty()).append(' ').append(state(x)).toString();
    }
}
