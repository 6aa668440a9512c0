import java.math.BigInteger;
import java.util.Arrays;
import java.util.Set;
import java.util.function.Supplier;

/**
 * The edges that the document names, and what is answered there: the limits of coefficients and
 * degrees, zero, constants and the degree 6, points and the level 12, point intervals, no intervals
 * at all, numbers that wrap around, and the 512th call. What is refused stands in RefusalsTest.
 */
public final class EdgesTest extends TestBase {
    private static final int[] ALL_9999 = {9999, 9999, 9999, 9999, 9999, 9999, 9999};
    private static final int[] ALTERNATING = {9999, -9999, 9999, -9999, 9999, -9999, 9999};

    /** A workbench with two polynomials in the slots 0 and 1. */
    private static SturmRoots withTwo(int[] one, int[] other) {
        SturmRoots x = withGreat(one);
        putGreat(x, 1, other);
        return x;
    }

    private static int[] power(int power, int coefficient) {
        int[] result = new int[power + 1];
        result[power] = coefficient;
        return result;
    }

    private static int[] list(int... values) {
        return values;
    }

    private static String text(int... coefficients) {
        StringBuilder result = new StringBuilder();
        for (int i = 0; i <= 6; i++) {
            result.append(i == 0 ? "" : " ").append(i < coefficients.length ? coefficients[i] : 0);
        }
        return result.toString();
    }

    /** A call that stores its result in slot 2. */
    private interface Store {
        int into2(SturmRoots x);
    }

    private static void stored(String call, SturmRoots x, Store method, int... want) {
        int degree = want.length - 1;
        put(x, 2, 9, 9, 9, 9, 9, 9, 9);
        due(call, degree, () -> method.into2(x));
        due("degree after " + call, degree, () -> x.degree(2));
        due("what " + call + " stored", text(want), () -> text(x, 2));
    }

    private static void rejected(String call, SturmRoots x, Store method) {
        put(x, 2, 1, 2, 3);
        due(call, STATE, () -> method.into2(x));
        due("what " + call + " left", text(1, 2, 3), () -> text(x, 2));
    }

    // ---- slots, coefficients and degrees

    private static void values() {
        for (int slot = 0; slot < 5; slot++) {
            for (int power = 0; power < 7; power++) {
                SturmRoots x = new SturmRoots();
                int s = slot;
                int p = power;
                due("coefficient before set", 0, () -> x.coefficient(s, p));
                due("set 99", p, () -> x.set(s, p, 99));
                due("coefficient 99", 99, () -> x.coefficient(s, p));
                due("set -99", p, () -> x.set(s, p, -99));
                due("coefficient -99", -99, () -> x.coefficient(s, p));
                due("degree", p, () -> x.degree(s));
                due("the other slots", -1, () -> x.degree((s + 1) % 5));
                due("set 0", -1, () -> x.set(s, p, 0));
                due("degree of zero", -1, () -> x.degree(s));
            }
        }
        SturmRoots x = withGreat(ALL_9999);
        due("set over 9999", 6, () -> x.set(0, 6, 99));
        for (int power = 6; power >= 0; power--) {
            int p = power;
            due("set that lowers the degree", p - 1, () -> x.set(0, p, 0));
        }
        due("set above a gap", 6, () -> x.set(0, 6, 1));
        due("set below it", 6, () -> x.set(0, 0, 1));
        due("set that leaves the gap", 0, () -> x.set(0, 6, 0));
    }

    private static void sums() {
        for (int power = 0; power < 7; power++) {
            SturmRoots x = withTwo(power(power, 9998), power(power, 1));
            stored("9998 + 1", x, y -> y.add(0, 1, 2), power(power, 9999));
            rejected("9999 + 1", withTwo(power(power, 9999), power(power, 1)), y -> y.add(0, 1, 2));
            rejected("1 + 9999", withTwo(power(power, 9999), power(power, 1)), y -> y.add(1, 0, 2));
            stored("-9998 - 1", withTwo(power(power, -9998), power(power, -1)), y -> y.add(0, 1, 2),
                    power(power, -9999));
            rejected("-9999 - 1", withTwo(power(power, -9999), power(power, -1)), y -> y.add(0, 1, 2));
            rejected("9999 + 9999", withTwo(power(power, 9999), power(0, 1)), y -> y.add(0, 0, 2));
        }
        int[] negative = Arrays.stream(ALL_9999).map(c -> -c).toArray();
        stored("p - p", withTwo(ALL_9999, negative), y -> y.add(0, 1, 2));
        stored("p + 0", withTwo(ALL_9999, list()), y -> y.add(0, 1, 2), ALL_9999);
        stored("0 + p", withTwo(list(), ALL_9999), y -> y.add(0, 1, 2), ALL_9999);
        stored("0 + 0", new SturmRoots(), y -> y.add(0, 1, 2));
        stored("a sum of a lower degree", withTwo(list(1, 2, 0, 0, 0, 0, 5), list(1, -2, 0, 0, 0, 0, -5)),
                y -> y.add(0, 1, 2), 2);
    }

    private static void products() {
        stored("x^3 x^3", withTwo(power(3, 1), power(3, 1)), y -> y.multiply(0, 1, 2), power(6, 1));
        stored("x^6 1", withTwo(power(6, 9999), power(0, 1)), y -> y.multiply(0, 1, 2), power(6, 9999));
        stored("1 x^6", withTwo(power(0, -1), power(6, 9999)), y -> y.multiply(0, 1, 2), power(6, -9999));
        for (int one = 1; one <= 6; one++) {
            for (int other = 7 - one; other <= 6; other++) {
                rejected("x^" + one + " x^" + other, withTwo(power(one, 1), power(other, 1)), y -> y.multiply(0, 1, 2));
            }
        }
        stored("p 0", withTwo(ALL_9999, list()), y -> y.multiply(0, 1, 2));
        stored("0 p", withTwo(list(), ALL_9999), y -> y.multiply(0, 1, 2));
        stored("0 0", new SturmRoots(), y -> y.multiply(0, 1, 2));
        for (int power = 0; power < 7; power++) {
            stored("3333 3", withTwo(power(power, 3333), list(3)), y -> y.multiply(0, 1, 2), power(power, 9999));
            stored("3333 -3", withTwo(power(power, 3333), list(-3)), y -> y.multiply(0, 1, 2), power(power, -9999));
            rejected("5000 2", withTwo(power(power, 5000), list(2)), y -> y.multiply(0, 1, 2));
            rejected("5000 -2", withTwo(power(power, 5000), list(-2)), y -> y.multiply(0, 1, 2));
        }
        rejected("9999 9999", withTwo(list(9999), list(9999)), y -> y.multiply(0, 1, 2));
        // The coefficient of x^2 is 5940 + 5940 - 2970: two of these together would be too great.
        stored("a product whose parts are greater", withTwo(list(99, 99, -99), list(30, 60, 60)),
                y -> y.multiply(0, 1, 2), 2970, 8910, 8910, 0, -5940);
        stored("a square", withTwo(list(0, 99), list(0, 99)), y -> y.multiply(0, 0, 2), 0, 0, 9801);
    }

    private static void derivatives() {
        // power, the greatest coefficient whose product with it is at most 9999
        int[][] most = {{1, 9999}, {2, 4999}, {3, 3333}, {4, 2499}, {5, 1999}, {6, 1666}};
        for (int[] row : most) {
            int power = row[0];
            for (int sign = -1; sign <= 1; sign += 2) {
                int taken = sign * row[1];
                stored("derivative of " + taken + " x^" + power, withGreat(power(power, taken)),
                        y -> y.derivative(0, 2), power(power - 1, power * taken));
                if (power > 1) {
                    rejected("derivative of a greater one", withGreat(power(power, taken + sign)), y -> y.derivative(0, 2));
                }
            }
        }
        stored("derivative of 9999", withGreat(9999), y -> y.derivative(0, 2));
        stored("derivative of zero", with(), y -> y.derivative(0, 2));
        stored("derivative with a gap", with(1, 0, 0, 0, 0, 0, 1), y -> y.derivative(0, 2), 0, 0, 0, 0, 0, 6);
    }

    private static void shifts() {
        stored("1111 x at x + 9", withGreat(0, 1111), y -> y.shift(0, 9, 2), 9999, 1111);
        rejected("1111 x + 1 at x + 9", withGreat(1, 1111), y -> y.shift(0, 9, 2));
        stored("1111 x at x - 9", withGreat(0, 1111), y -> y.shift(0, -9, 2), -9999, 1111);
        rejected("1111 x - 1 at x - 9", withGreat(-1, 1111), y -> y.shift(0, -9, 2));
        rejected("10000 alone is too great", withGreat(0, 5000), y -> y.shift(0, 2, 2));
        stored("9999 and its neighbors", withGreat(9999, 0, 0, 0, 0, 0, 0), y -> y.shift(0, 9, 2), 9999);
        stored("p at x + 0", withGreat(ALL_9999), y -> y.shift(0, 0, 2), ALL_9999);
        stored("zero at x + 9", with(), y -> y.shift(0, 9, 2));
        stored("zero at x - 9", with(), y -> y.shift(0, -9, 2));
        stored("x^6 at x + 4", with(power(6, 1)), y -> y.shift(0, 4, 2), 4096, 6144, 3840, 1280, 240, 24, 1);
        stored("x^6 at x - 4", with(power(6, 1)), y -> y.shift(0, -4, 2), 4096, -6144, 3840, -1280, 240, -24, 1);
        rejected("x^6 at x + 5", with(power(6, 1)), y -> y.shift(0, 5, 2));
        rejected("9999 x^6 at x - 9", withGreat(power(6, 9999)), y -> y.shift(0, -9, 2));
        // 81000 and -81000 cancel.
        stored("what is greater on the way", withGreat(0, -9000, 1000), y -> y.shift(0, 9, 2), 0, 9000, 1000);
        stored("what is less on the way", withGreat(0, 9000, 1000), y -> y.shift(0, -9, 2), 0, -9000, 1000);
    }

    private static void reflections() {
        stored("reflect 9999", withGreat(ALL_9999), y -> y.reflect(0, 2), ALTERNATING);
        stored("reflect back", withGreat(ALTERNATING), y -> y.reflect(0, 2), ALL_9999);
        stored("reflect zero", with(), y -> y.reflect(0, 2));
        stored("reflect a constant", withGreat(-9999), y -> y.reflect(0, 2), -9999);
        stored("copy 9999", withGreat(ALTERNATING), y -> y.copy(0, 2), ALTERNATING);
        SturmRoots x = withGreat(1);
        stored("copy zero over a polynomial", x, y -> y.copy(1, 2));
        stored("reflect zero over a polynomial", x, y -> y.reflect(1, 2));
    }

    private static void scales() {
        stored("1111 times 9", withGreat(1111, 1), y -> y.scale(0, 9, 2), 9999, 1);
        rejected("1112 times 9", withGreat(1112, 1), y -> y.scale(0, 9, 2));
        stored("-1111 times 9", withGreat(-1111, 1), y -> y.scale(0, 9, 2), -9999, 1);
        rejected("-1112 times 9", withGreat(-1112, 1), y -> y.scale(0, 9, 2));
        rejected("5000 times 2", withGreat(1, 5000, 1), y -> y.scale(0, 2, 2));
        stored("4999 times 2", withGreat(0, -4999, 1), y -> y.scale(0, 2, 2), 0, -9998, 1);
        stored("a leading 9999", withGreat(power(6, 9999)), y -> y.scale(0, 9, 2), power(6, 9999));
        stored("the constant 9999", withGreat(-9999), y -> y.scale(0, 9, 2), -9999);
        stored("zero", with(), y -> y.scale(0, 9, 2));
        stored("2 to the power 0 to 6", with(1, 1, 1, 1, 1, 1, 1), y -> y.scale(0, 2, 2), 64, 32, 16, 8, 4, 2, 1);
        stored("9 to the power 0 to 4", with(1, 1, 1, 1, 1), y -> y.scale(0, 9, 2), 6561, 729, 81, 9, 1);
        rejected("9 to the power 5", with(1, 0, 0, 0, 0, 1), y -> y.scale(0, 9, 2));
        rejected("9999 times 9 to the power 6", withGreat(9999, 0, 0, 0, 0, 0, 1), y -> y.scale(0, 9, 2));
        stored("the power counts from the degree", with(0, 0, 3, 0, 5), y -> y.scale(0, 4, 2), 0, 0, 48, 0, 5);
    }

    private static void divisors() {
        // The divisor is 5000 - 9999 x + 5000 x^2; then 9999 becomes 10000, with both signs.
        stored("gcd with -9999", withTwo(list(5000, -4999, -4999, 5000), list(5000, -4999, 1, -4999, 5000)),
                y -> y.gcd(0, 1, 2), 5000, -9999, 5000);
        stored("gcd with 9999", withTwo(list(5000, 4999, -4999, -5000), list(5000, 4999, 1, 4999, 5000)),
                y -> y.gcd(0, 1, 2), 5000, 9999, 5000);
        rejected("gcd with -10000", withTwo(list(5001, -4999, -4999, 5001), list(5001, -4999, 2, -4999, 5001)),
                y -> y.gcd(0, 1, 2));
        rejected("gcd with 10000", withTwo(list(5001, 4999, -4999, -5001), list(5001, 4999, 2, 4999, 5001)),
                y -> y.gcd(0, 1, 2));
        stored("gcd of zeros", with(), y -> y.gcd(0, 1, 2));
        stored("gcd of zero and -9999", withTwo(list(), list(-9999)), y -> y.gcd(0, 1, 2), 1);
        stored("gcd of -9999 and zero", withTwo(list(-9999), list()), y -> y.gcd(0, 1, 2), 1);
        stored("gcd of 6 and 9", withTwo(list(6), list(9)), y -> y.gcd(0, 1, 2), 1);
        stored("gcd of 6 and a polynomial", withTwo(list(6), list(6, 6)), y -> y.gcd(0, 1, 2), 1);
        stored("gcd of a polynomial and -6", withTwo(list(6, 6), list(-6)), y -> y.gcd(0, 1, 2), 1);
        stored("gcd of zero and p", withTwo(list(), list(9999, 0, 0, 0, 0, 0, -9998)), y -> y.gcd(0, 1, 2),
                -9999, 0, 0, 0, 0, 0, 9998);
        stored("gcd of p and p", withGreat(ALTERNATING), y -> y.gcd(0, 0, 2), 1, -1, 1, -1, 1, -1, 1);
        stored("gcd of p and -p", withTwo(list(4, -6), list(-4, 6)), y -> y.gcd(0, 1, 2), -2, 3);
        stored("gcd with rational quotients", withTwo(list(6, 9), list(4, 0, -9)), y -> y.gcd(0, 1, 2), 2, 3);
    }

    private static void squareFreeParts() {
        stored("square-free with 9999", withGreat(5001, 4998, -5000, -9998, -5000, 4998, 5001),
                y -> y.squareFreePart(0, 2), -5001, -9999, -4999, 4999, 9999, 5001);
        rejected("square-free with -10000", withGreat(5001, 4999, -5001, -9999, -4999, 4998, 5001),
                y -> y.squareFreePart(0, 2));
        rejected("square-free with 10000", withGreat(5001, 4998, -4999, -9999, -5001, 4999, 5001),
                y -> y.squareFreePart(0, 2));
        stored("of 9999", withGreat(9999), y -> y.squareFreePart(0, 2), 1);
        stored("of -1", with(-1), y -> y.squareFreePart(0, 2), 1);
        for (int power = 1; power <= 6; power++) {
            stored("of x^" + power, withGreat(power(power, -9999)), y -> y.squareFreePart(0, 2), 0, 1);
        }
        stored("of 6 - 4 x", with(6, -4), y -> y.squareFreePart(0, 2), -3, 2);
        stored("of what is square-free", with(7, 0, 0, 0, 0, 0, -7), y -> y.squareFreePart(0, 2), -1, 0, 0, 0, 0, 0, 1);
        stored("of (x^2 - 2)^3", with(-8, 0, 12, 0, -6, 0, 1), y -> y.squareFreePart(0, 2), -2, 0, 1);
        stored("of (x^2 + x + 1)^2", with(1, 2, 3, 2, 1), y -> y.squareFreePart(0, 2), 1, 1, 1);
        stored("of (2 x - 1)^2 (x + 1)", with(1, -3, 0, 4), y -> y.squareFreePart(0, 2), -1, 1, 2);
    }

    /** The slot of the result may be one of those that are read. */
    private static void sameSlots() {
        SturmRoots x = with(1, 2);
        put(x, 1, 3, 4, 5);
        due("add(0, 1, 0)", 2, () -> x.add(0, 1, 0));
        due("slot 0", text(4, 6, 5), () -> text(x, 0));
        due("add(0, 1, 1)", 2, () -> x.add(0, 1, 1));
        due("slot 1", text(7, 10, 10), () -> text(x, 1));
        due("multiply(0, 1, 1)", 4, () -> x.multiply(0, 1, 1));
        due("slot 1 again", text(28, 82, 135, 110, 50), () -> text(x, 1));
        due("multiply(0, 0, 0)", 4, () -> x.multiply(0, 0, 0));
        due("slot 0 again", text(16, 48, 76, 60, 25), () -> text(x, 0));
        due("derivative(0, 0)", 3, () -> x.derivative(0, 0));
        due("shift(0, -1, 0)", 3, () -> x.shift(0, -1, 0));
        due("slot 0, shifted", text(-24, 92, -120, 100), () -> text(x, 0));
        due("reflect(0, 0)", 3, () -> x.reflect(0, 0));
        due("scale(0, 2, 0)", 3, () -> x.scale(0, 2, 0));
        due("slot 0, scaled", text(-192, -368, -240, -100), () -> text(x, 0));
        due("squareFreePart(0, 0)", 3, () -> x.squareFreePart(0, 0));
        due("slot 0, primitive", text(48, 92, 60, 25), () -> text(x, 0));
        due("copy(0, 0)", 3, () -> x.copy(0, 0));
        due("gcd(0, 1, 1)", 0, () -> x.gcd(0, 1, 1));
        due("gcd(0, 0, 0)", 3, () -> x.gcd(0, 0, 0));
        due("slots 0 and 1", text(48, 92, 60, 25) + ", " + text(1), () -> text(x, 0) + ", " + text(x, 1));
    }

    // ---- Sturm sequences

    private static String sequence(SturmRoots x) {
        StringBuilder result = new StringBuilder();
        for (int index = 0; index < x.sturmLength(0); index++) {
            result.append(index == 0 ? "" : ", ");
            for (int power = 0; power <= x.sturmDegree(0, index); power++) {
                result.append(power == 0 ? "" : " ").append(x.sturmCoefficient(0, index, power));
            }
        }
        return result.toString();
    }

    private static void sequences() {
        due("of 9999", "1", () -> sequence(withGreat(9999)));
        due("of -9999", "-1", () -> sequence(withGreat(-9999)));
        due("of 9999 x", "0 1, 1", () -> sequence(withGreat(0, 9999)));
        due("of 4 - 6 x", "2 -3, -1", () -> sequence(with(4, -6)));
        due("of x^6", "0 0 0 0 0 0 1, 0 0 0 0 0 1", () -> sequence(with(power(6, 1))));
        due("of -x^2", "0 0 -1, 0 -1", () -> sequence(with(0, 0, -1)));
        due("of (x^2 - 1)^3", "-1 0 3 0 -3 0 1, 0 1 0 -2 0 1, 1 0 -2 0 1", () -> sequence(with(-1, 0, 3, 0, -3, 0, 1)));
        due("of x^6 - 1", "-1 0 0 0 0 0 1, 0 0 0 0 0 1, 1", () -> sequence(with(-1, 0, 0, 0, 0, 0, 1)));
        due("of 1 + x + ... + x^6", "1 1 1 1 1 1 1, 1 2 3 4 5 6, -5 -4 -3 -2 -1, -1",
                () -> sequence(withGreat(ALL_9999)));
        SturmRoots x = with(-12, 0, 49, 0, -14, 0, 1);
        due("the greatest length", 7, () -> x.sturmLength(0));
        for (int i = 0; i < 7; i++) {
            int index = i;
            due("degree of the element " + i, 6 - i, () -> x.sturmDegree(0, index));
        }
        due("the element 6", true, () -> x.sturmCoefficient(0, 6, 0) != 0);
        due("the degree of element 7", NO_ELEMENT, () -> x.sturmDegree(0, 7));
        due("the element 7", NO_ELEMENT, () -> x.sturmCoefficient(0, 7, 0));
        for (int power = 1; power <= 6; power++) {
            int p = power;
            due("above the degree 0", 0L, () -> x.sturmCoefficient(0, 6, p));
        }
        SturmRoots y = with(5);
        due("the element 1 of a constant", NO_ELEMENT, () -> y.sturmDegree(0, 1));
        due("the power 6 of a constant", 0L, () -> y.sturmCoefficient(0, 0, 6));
    }

    /**
     * A coefficient of an element is one of x to the power 0 to 6: above the degree it is 0, and so it
     * is right after a sequence that had others there.
     */
    private static void aboveTheDegree() {
        int[][] polynomials = {{-7}, {4, -6}, {-2, 0, 1}, {2, -3, 0, 1}, {6, 0, -4, 0, 2}, {1, 1, 0, 0, 0, 1},
            {1, 1, 0, 0, 0, 0, 1}, {0, 0, 0, 0, 0, 0, 1}};
        for (int[] coefficients : polynomials) {
            SturmRoots x = withGreat(9999, -9973, 9967, 9949, -9941, 9931, 9929);
            put(x, 1, coefficients);
            for (int index = 0; index < x.sturmLength(1); index++) {
                int i = index;
                for (int power = 6; power > x.sturmDegree(1, i); power--) {
                    int p = power;
                    x.sturmLength(0);
                    due("the power " + p + " of the element " + i + " of " + text(coefficients), 0L,
                            () -> x.sturmCoefficient(1, i, p));
                }
                due("and the one of its degree", true, () -> x.sturmCoefficient(1, i, x.sturmDegree(1, i)) != 0);
            }
        }
    }

    /** A coefficient of the element 5, written out, of which the lowest 64 bits are due. */
    private static void wraps(String exact, int power, int... coefficients) {
        BigInteger value = new BigInteger(exact);
        SturmRoots x = with(coefficients);
        due(exact, value.longValue(), () -> x.sturmCoefficient(0, 5, power));
    }

    private static void coefficientsThatWrapAround() {
        wraps("8916710796376532806", 1, 36, -93, 19, -10, -7, 75, 91);
        wraps("9100303452730567549", 0, 98, -67, -25, 68, -50, 94, 87);
        wraps("-6904973000296227865", 1, -21, -54, -79, 61, -61, 85, 77);
        wraps("-8411738787400549991", 0, -92, -49, -59, 51, 13, 60, 67);
        wraps("13580363464708531201", 0, -88, 78, 57, 27, 73, 67, -89);
        wraps("18231496532668941477", 0, -99, -91, 10, -85, -23, -51, 87);
        wraps("12833845815363933558", 1, 61, -26, -53, -98, 40, -61, 81);
        wraps("-11887241728219731628", 1, -24, -95, -70, 23, -9, 93, 89);
        wraps("-15566049295278985085", 1, -88, 78, 57, 27, 73, 67, -89);
        wraps("19292832874660638424", 1, -99, -91, 10, -85, -23, -51, 87);
        wraps("35455046770459391857", 1, -40, -93, 66, -78, -89, 65, 93);
        wraps("-26162208815030589629", 1, -78, 96, 65, 75, 63, -78, -89);
        wraps("-59857657433847126955", 0, 82, -83, -62, -77, -73, -79, 75);
    }

    private static void changes() {
        due("of a constant", 0, () -> with(-5).signChanges(0, -1000000, 0));
        due("of x at -1/4096", 1, () -> with(0, 1).signChanges(0, -1, 12));
        due("of x at 0", 0, () -> with(0, 1).signChanges(0, 0, 12));
        due("of x at 1/4096", 0, () -> with(0, 1).signChanges(0, 1, 12));
        // At 1 each element of the sequence of (x - 1)^2 is 0.
        due("where all are 0", 0, () -> with(1, -2, 1).signChanges(0, 1, 0));
        // The sequence of x^4 + 1 is x^4 + 1, x^3, -1.
        due("+ 0 -", 1, () -> with(1, 0, 0, 0, 1).signChanges(0, 0, 0));
        // The sequence of x^2 - 1 is x^2 - 1, x, 1: a change is lost at the root itself.
        SturmRoots x = with(-1, 0, 1);
        due("at -2", 2, () -> x.signChanges(0, -2, 0));
        due("at the root -1", 1, () -> x.signChanges(0, -1, 0));
        due("between the roots", 1, () -> x.signChanges(0, 1023, 10));
        due("at the root 1", 0, () -> x.signChanges(0, 1, 0));
        SturmRoots six = with(0, -12, 4, 15, -5, -3, 1);
        due("of six roots, at -1000000", 6, () -> six.signChanges(0, -1000000, 0));
        due("at -1000000 / 4096", 6, () -> six.signChanges(0, -1000000, 12));
        due("at 1000000 / 4096", 0, () -> six.signChanges(0, 1000000, 12));
        due("at 1000000", 0, () -> six.signChanges(0, 1000000, 0));
        SturmRoots great = withGreat(9999, -9973, 9967, 9949, -9941, 9931, 9929);
        due("of great numbers, at -1000000", great.distinctRoots(0),
                () -> great.signChanges(0, -1000000, 0) - great.signChanges(0, 1000000, 0));
    }

    // ---- signs and roots

    private static void signs() {
        for (int power = 0; power <= 6; power++) {
            SturmRoots x = withGreat(power(power, 9999));
            int odd = power % 2 == 0 ? 1 : -1;
            int atZero = power == 0 ? 1 : 0;
            due("of 9999 x^" + power + " at -1000000", odd, () -> x.sign(0, -1000000, 0));
            due("at -1/4096", odd, () -> x.sign(0, -1, 12));
            due("at 0", atZero, () -> x.sign(0, 0, 12));
            due("at 1/4096", 1, () -> x.sign(0, 1, 12));
            due("at 1000000", 1, () -> x.sign(0, 1000000, 0));
        }
        due("of 4096 x - 1 at 1/4096", 0, () -> withGreat(-1, 4096).sign(0, 1, 12));
        for (int k = 0; k <= 12; k++) {
            int level = k;
            due("of zero", 0, () -> with().sign(0, 1000000, level));
            due("of x - 99 at 99", 0, () -> with(-99, 1).sign(0, 99 << level, level));
            due("a bit below", -1, () -> with(-99, 1).sign(0, (99 << level) - 1, level));
            due("a bit above", 1, () -> with(-99, 1).sign(0, (99 << level) + 1, level));
        }
    }

    /** The same points, written with each k: the values at them end with many zero bits. */
    private static void equalPoints() {
        int[][] polynomials = {{-128, 0, 1}, {64, 0, 0, -1}, {-9999, 0, 0, 0, 0, 0, 9999}, {0, -64, 0, 0, 0, 0, 1},
            {4096, -6144, 3840, -1280, 240, -24, 1}, {-9998, 9999}, {8192, 0, -4096, 0, 0, 1}};
        for (int[] coefficients : polynomials) {
            SturmRoots x = withGreat(coefficients);
            for (int n = -16; n <= 16; n++) {
                long value = 0;
                for (int i = coefficients.length - 1; i >= 0; i--) {
                    value = value * n + coefficients[i];
                }
                int sign = Long.signum(value);
                int k = n < 0 ? -n % 13 : n % 13;
                int at = n;
                due("sign of " + text(coefficients) + " at " + n, sign, () -> x.sign(0, at, 0));
                due("with k = 12", sign, () -> x.sign(0, at << 12, 12));
                due("with k = " + k, sign, () -> x.sign(0, at << k, k));
                due("changes at " + n, x.signChanges(0, at, 0), () -> x.signChanges(0, at << 12, 12));
            }
        }
    }

    private static void counts() {
        // 4096 x - 1, and (64 x - 1)^2
        SturmRoots x = withGreat(-1, 4096);
        due("up to the root's neighbor", 1, () -> x.countDistinct(0, 0, 12, 2, 12));
        due("all of it", 1, () -> x.countAll(0, 0, 12, 2, 12));
        due("below it", 0, () -> x.countDistinct(0, -1, 12, 0, 12));
        due("above it", 0, () -> x.countAll(0, 2, 12, 3, 12));
        due("at the lesser point", STATE, () -> x.countDistinct(0, 1, 12, 2, 12));
        due("at the greater point", STATE, () -> x.countAll(0, 0, 12, 1, 12));
        SturmRoots y = withGreat(1, -128, 4096);
        due("a double root, once", 1, () -> y.countDistinct(0, 63, 12, 65, 12));
        due("a double root, twice", 2, () -> y.countAll(0, 63, 12, 65, 12));
        for (int power = 1; power <= 6; power++) {
            int p = power;
            SturmRoots z = withGreat(power(p, -9999));
            due("of x^" + p, 1, () -> z.countDistinct(0, -1000000, 0, 1000000, 0));
            due("all of x^" + p, p, () -> z.countAll(0, -1000000, 0, 1000000, 0));
            due("all of x^" + p + ", near it", p, () -> z.countAll(0, -1, 12, 1, 12));
        }
        due("of 9999", 0, () -> withGreat(9999).countDistinct(0, -1000000, 0, 1000000, 0));
        due("all of 9999", 0, () -> withGreat(9999).countAll(0, -1000000, 0, 1000000, 0));
        // (x - 1)^3 (x + 1)^2 x
        SturmRoots z = with(0, -1, 1, 2, -2, -1, 1);
        due("of three roots", 3, () -> z.countDistinct(0, -3, 1, 3, 1));
        due("all six", 6, () -> z.countAll(0, -3, 1, 3, 1));
        due("of 1, three times", 3, () -> z.countAll(0, 1, 1, 3, 1));
        due("of -1, twice", 2, () -> z.countAll(0, -3, 1, -1, 1));
        due("of 0, once", 1, () -> z.countAll(0, -1, 1, 1, 1));
        // (x^2 + 1)^2 (x - 1)^2: complex roots do not count
        SturmRoots w = with(1, -2, 3, -4, 3, -2, 1);
        due("of a double root, among complex ones", 1, () -> w.countDistinct(0, 0, 0, 2, 0));
        due("all of it among complex ones", 2, () -> w.countAll(0, 0, 0, 2, 0));
    }

    private static void distinct() {
        due("of 9999 + x", 1, () -> withGreat(9999, 1).distinctRoots(0));
        due("of 9999 - x", 1, () -> withGreat(9999, -1).distinctRoots(0));
        due("of a root near 9999.99", 2, () -> withGreat(-9999, -9999, 1).distinctRoots(0));
        due("of a root near -9999.99", 2, () -> withGreat(-9999, 9999, 1).distinctRoots(0));
        due("of a root near 0.0001", 1, () -> withGreat(-1, 9999).distinctRoots(0));
        due("of 9999 (1 + ... + x^6)", 0, () -> withGreat(ALL_9999).distinctRoots(0));
        due("of x^6 - 1", 2, () -> with(-1, 0, 0, 0, 0, 0, 1).distinctRoots(0));
        due("of x^5", 1, () -> with(power(5, 1)).distinctRoots(0));
        due("of 1", 0, () -> with(1).distinctRoots(0));
        due("changes of a constant", 0, () -> with(-1).coefficientSignChanges(0));
        due("changes of 9999s", 6, () -> withGreat(ALTERNATING).coefficientSignChanges(0));
        due("changes over a gap", 1, () -> with(1, 0, 0, 0, 0, 0, -1).coefficientSignChanges(0));
        due("no changes over a gap", 0, () -> with(-1, 0, 0, 0, 0, 0, -1).coefficientSignChanges(0));
        due("changes of x^6", 0, () -> with(power(6, -1)).coefficientSignChanges(0));
    }

    // ---- isolation

    private static void bound(int want, int... coefficients) {
        SturmRoots x = withGreat(coefficients);
        x.isolate(0);
        due("the interval of " + text(coefficients), "0 " + -want + " " + want + " 1",
                () -> x.interval(0, 'd') + " " + x.interval(0, 'm') + " " + x.interval(0, 'n') + " " + x.intervals());
    }

    private static void bounds() {
        bound(1, 9999);
        bound(1, -1);
        bound(1, power(6, -9999));
        bound(1, 0, 1);
        for (int b = 2; b <= 8192; b *= 2) {
            bound(b, b - 1, 1);
            bound(b, 0, 1 - b, -1);
            bound(2 * b, b, 1);
            bound(2 * b, 0, 0, -b, 0, 0, 0, -1);
        }
        bound(16384, 9999, 1);
        bound(16384, -9999, 0, 0, 0, 0, 0, -1);
        bound(2, 9999, 9999);
        bound(2, 1, 9999);
        bound(2, 0, 0, 0, 3333, -3333);
        bound(4, 0, 0, 0, 3334, -3333);
        bound(4, -9999, 0, 3333);
        bound(8, -9999, 0, 3332);
        bound(8, 63, 0, -9);
        bound(16, 64, 0, -9);
        for (int power = 0; power < 6; power++) {
            int[] coefficients = power(6, 1);
            coefficients[power] = -16;
            bound(32, coefficients);
        }
    }

    private static void beginnings() {
        SturmRoots x = new SturmRoots();
        due("no isolation at first", 0, () -> x.intervals());
        due("nothing to remove", 0, () -> x.removeEmpty());
        due("still no isolation", 0, () -> x.intervals());
        due("isolate zero", ARITHMETIC, () -> x.isolate(0));
        due("no isolation after it", 0, () -> x.intervals());
        x.set(0, 0, -9);
        due("isolate a constant", 0, () -> x.isolate(0));
        due("its interval", "0:-1:1=0", () -> parts(x));
        due("bisect it", 2, () -> x.bisect(0));
        due("its halves", "1:-2:0=0 1:0:2=0", () -> parts(x));
        due("multiplicity without a root", STATE, () -> x.multiplicity(0));
        due("remove both", 2, () -> x.removeEmpty());
        due("no intervals", 0, () -> x.intervals());
        due("remove none", 0, () -> x.removeEmpty());
        x.set(0, 6, 1);
        due("isolate x^6 - 9 anew", 2, () -> x.isolate(0));
        due("its interval", "0:-16:16=2", () -> parts(x));
        x.bisect(0);
        due("isolate anew in its place", 2, () -> x.isolate(0));
        due("its one interval", "0:-16:16=2", () -> parts(x));
        x.copy(1, 0);
        due("zero in its place", ARITHMETIC, () -> x.isolate(0));
        due("the earlier one stays", "0:-16:16=2", () -> parts(x));
        due("and is bisected", 2, () -> x.bisect(0));
        due("by its polynomial", "1:-32:0=1 1:0:32=1", () -> parts(x));
    }

    private static void pointIntervals() {
        // x (x^2 - 1): the roots are the midpoint and, later, ends of intervals.
        SturmRoots x = with(0, -1, 0, 1);
        due("isolate", 3, () -> x.isolate(0));
        due("its interval", "0:-2:2=3", () -> parts(x));
        due("bisect at 0", 3, () -> x.bisect(0));
        due("-2 to 0, 0, 0 to 2", "1:-4:0=1 1:0:0=1 1:0:4=1", () -> parts(x));
        due("bisect at 1", 5, () -> x.bisect(2));
        due("0 to 1, 1, 1 to 2", "1:-4:0=1 1:0:0=1 2:0:4=0 2:4:4=1 2:4:8=0", () -> parts(x));
        due("bisect 0", STATE, () -> x.bisect(1));
        due("refine 0", STATE, () -> x.refine(1, 1));
        due("multiplicity of 0", 1, () -> x.multiplicity(1));
        due("bisect 0 to 1, between two roots", 6, () -> x.bisect(2));
        due("bisect 1 to 2, from a root on", 7, () -> x.bisect(5));
        due("no root is in them", "1:-4:0=1 1:0:0=1 3:0:4=0 3:4:8=0 2:4:4=1 3:8:12=0 3:12:16=0", () -> parts(x));
        due("refine -2 to 0, up to a root", 2, () -> x.refine(0, 6));
        due("remove the empty ones", 4, () -> x.removeEmpty());
        due("the three points", "2:-4:-4=1 1:0:0=1 2:4:4=1", () -> parts(x));
        due("nothing more to remove", 0, () -> x.removeEmpty());
        due("of the first point", "2 -4 -4", () -> x.interval(0, 'd') + " " + x.interval(0, 'm') + " " + x.interval(0, 'n'));
    }

    private static void level12() {
        // 1024 x - 1: the midpoint of the level 11 is 4/4096.
        SturmRoots x = withGreat(-1, 1024);
        x.isolate(0);
        due("refine to the level 6", 6, () -> x.refine(0, 6));
        due("refine to the level 11", 11, () -> x.refine(0, 5));
        due("0 to 2/1024", "11:0:4=1", () -> parts(x));
        due("twice is beyond 12, although once is enough", STATE, () -> x.refine(0, 2));
        due("6 times is beyond 12", STATE, () -> x.refine(0, 6));
        due("what is left of it", "11:0:4=1", () -> parts(x));
        due("refine to the level 12", 12, () -> x.refine(0, 1));
        due("the point", "12:4:4=1", () -> parts(x));
        due("refine it", STATE, () -> x.refine(0, 1));
        due("bisect it", STATE, () -> x.bisect(0));
        due("its multiplicity", 1, () -> x.multiplicity(0));
        SturmRoots y = withGreat(-1, 1024);
        y.isolate(0);
        y.refine(0, 6);
        y.refine(0, 5);
        due("bisect the level 11", 3, () -> y.bisect(0));
        due("three of the level 12", "12:0:4=0 12:4:4=1 12:4:8=0", () -> parts(y));
        for (int i = 0; i < 3; i++) {
            int index = i;
            due("bisect the level 12", STATE, () -> y.bisect(index));
        }
        due("remove two of them", 2, () -> y.removeEmpty());
        // 2048 x - 1: the root is the midpoint of an interval of the level 12, which is the last.
        SturmRoots z = withGreat(-1, 2048);
        z.isolate(0);
        z.refine(0, 6);
        due("refine to 12 at once", 12, () -> z.refine(0, 6));
        due("0 to 1/1024", "12:0:4=1", () -> parts(z));
        due("beyond", STATE, () -> z.refine(0, 1));
        due("bisect beyond", STATE, () -> z.bisect(0));
    }

    private static void greatestNumbers() {
        SturmRoots x = withGreat(9999, 1);
        x.isolate(0);
        for (int i = 1; i <= 12; i++) {
            int count = i + 1;
            due("bisection " + i, count, () -> x.bisect(0));
        }
        due("the least interval", "12:-67108864:-67076096=0", () -> part(x, 0));
        due("the next one", "12:-67076096:-67043328=0", () -> part(x, 1));
        due("the root's", "3:-98304:-65536=1", () -> part(x, 10));
        due("around -9999", 9, () -> x.refine(10, 6));
        due("around -9999, further", 12, () -> x.refine(10, 3));
        due("its numbers", "12:-40960000:-40927232=1", () -> part(x, 10));
    }

    private static void refinements() {
        for (int times = 1; times <= 6; times++) {
            int t = times;
            SturmRoots x = with(-2, 0, 1);
            x.isolate(0);
            x.bisect(0);
            due("refine " + t + " times", 1 + t, () -> x.refine(1, t));
            due("the other one stays", "1:-8:0=1", () -> part(x, 0));
            // The root of 2 is between low and low + 8, both divided by 2 to the power of the level.
            int low = (int) (Math.sqrt(2) * (1 << 1 + t)) / 8 * 8;
            due("around the root of 2", 1 + t + ":" + low + ":" + (low + 8) + "=1", () -> part(x, 1));
            due("as many as before", 2, () -> x.intervals());
        }
        // (x^2 - 2)^3: one root in each half, although a triple one
        SturmRoots x = with(-8, 0, 12, 0, -6, 0, 1);
        x.isolate(0);
        due("refine two roots", STATE, () -> x.refine(0, 1));
        due("multiplicity of two roots", STATE, () -> x.multiplicity(0));
        x.bisect(0);
        due("refine a triple root", 7, () -> x.refine(0, 6));
        due("its multiplicity", 3, () -> x.multiplicity(0));
        due("the other one's", 3, () -> x.multiplicity(1));
    }

    private static void multiplicities() {
        for (int power = 1; power <= 6; power++) {
            int p = power;
            SturmRoots x = withGreat(power(p, -9999));
            x.isolate(0);
            due("of x^" + p, p, () -> x.multiplicity(0));
            due("refined to a point", 1, () -> x.refine(0, 6));
            due("of the point", p, () -> x.multiplicity(0));
        }
        // (x - 1)^3 (x + 1)^2 x
        SturmRoots x = with(0, -1, 1, 2, -2, -1, 1);
        x.isolate(0);
        x.bisect(0);
        due("of -1, below the root 0", 2, () -> x.multiplicity(0));
        due("of 0", 1, () -> x.multiplicity(1));
        due("of 1, above the root 0", 3, () -> x.multiplicity(2));
        x.copy(1, 0);
        due("when its slot is zero", 3, () -> x.multiplicity(2));
        // (x^2 + 1)^2 (x - 1)^2: the complex roots have a multiplicity, too.
        SturmRoots y = with(1, -2, 3, -4, 3, -2, 1);
        y.isolate(0);
        due("among complex roots", 2, () -> y.multiplicity(0));
        SturmRoots z = with(-1, 1, -2, 2, -1, 1);
        z.isolate(0);
        due("beside double complex ones", 1, () -> z.multiplicity(0));
    }

    // ---- all

    private static void theorem() {
        due("of zero", true, () -> new SturmRoots().isTrue(0));
        due("of 9999", true, () -> withGreat(9999).isTrue(0));
        due("of 9999 (1 + ... + x^6)", true, () -> withGreat(ALL_9999).isTrue(0));
        due("of 9999 - x", true, () -> withGreat(9999, -1).isTrue(0));
        due("of 0 as a root", true, () -> with(0, 0, -1, 1).isTrue(0));
        due("of x", true, () -> with(0, 1).isTrue(0));
        due("of a square-free part with 10000", true,
                () -> withGreat(5001, 4999, -5001, -9999, -4999, 4998, 5001).isTrue(0));
    }

    private static long wrapped(long[] first, long... rest) {
        long[] values = Arrays.copyOf(first, first.length + rest.length);
        System.arraycopy(rest, 0, values, first.length, rest.length);
        BigInteger c = BigInteger.valueOf(7);
        for (long value : values) {
            c = c.multiply(BigInteger.valueOf(31)).add(BigInteger.valueOf(value));
        }
        int bits = c.bitLength();
        due("whether the exact sum wraps around", true, () -> bits > 64);
        return c.longValue();
    }

    private static void checksums() {
        due("of a new object", wrapped(new long[36]), () -> new SturmRoots().checksum());
        SturmRoots x = new SturmRoots();
        long[] values = new long[36 + 5 * 4];
        for (int i = 0; i < 35; i++) {
            values[i] = i % 2 == 0 ? i - 50 : 99 - i;
            x.set(i / 7, i % 7, (int) values[i]);
        }
        due("of 35 coefficients", wrapped(Arrays.copyOf(values, 36)), () -> x.checksum());
        SturmRoots y = with(0, -1, 0, 1);
        y.isolate(0);
        y.bisect(0);
        y.bisect(2);
        for (int i = 0; i < 35; i++) {
            y.set(i / 7, i % 7, (int) values[i]);
        }
        int[] tail = {5, 1, -4, 0, 1, 1, 0, 0, 1, 2, 0, 4, 0, 2, 4, 4, 1, 2, 4, 8, 0};
        for (int i = 0; i < tail.length; i++) {
            values[35 + i] = tail[i];
        }
        due("of five intervals", wrapped(values), () -> y.checksum());
        SturmRoots z = with(-7);
        values = new long[36];
        values[0] = -7;
        long slotsAlone = wrapped(values);
        due("without an isolation", slotsAlone, () -> z.checksum());
        z.isolate(0);
        due("with an interval without roots", wrapped(Arrays.copyOf(values, 35), 1, 0, -1, 1, 0), () -> z.checksum());
        z.removeEmpty();
        due("with an empty list", slotsAlone, () -> z.checksum());
    }

    // ---- 512 calls

    /** What comes of the calls that fill the levels up to 8 and half of the level 9. */
    private static long manyIntervals() {
        long[] values = new long[36 + 4 * 507];
        values[0] = 97;
        values[35] = 507;
        int at = 36;
        for (int i = 0; i < 507; i++) {
            int level = i < 502 ? 9 : 8;
            int low = i < 502 ? i * 2 - 512 : (i - 502 + 251) * 2 - 256;
            values[at++] = level;
            values[at++] = low;
            values[at++] = low + 2;
            values[at++] = 0;
        }
        return wrapped(values);
    }

    private static void call512() {
        // 1 set, 1 isolate, 255 + 251 bisections, 3 more calls, and checksum is the 512th.
        SturmRoots x = new SturmRoots();
        x.set(0, 0, 97);
        x.isolate(0);
        for (int level = 0; level < 8; level++) {
            for (int i = 0; i < 1 << level; i++) {
                x.bisect(2 * i);
            }
        }
        for (int i = 0; i < 251; i++) {
            x.bisect(2 * i);
        }
        due("call 509", 507, () -> x.intervals());
        due("call 510, of a constant", STATE, () -> x.multiplicity(506));
        due("call 511", 0, () -> x.rootsIn(506));
        due("call 512", manyIntervals(), () -> x.checksum());
        SturmRoots y = withGreat(9999, -9973, 9967, 9949, -9941, 9931, 9929);
        for (int i = 59; i < 511; i++) {
            y.isTrue(0);
        }
        due("call 512 of dear ones", -4190510794154288643L, () -> y.sturmCoefficient(0, 5, 0));
        SturmRoots z = with(-2, 0, 1);
        for (int i = 7; i < 511; i++) {
            int slot = i % 3 == 0 ? 5 : i % 3 == 1 ? 4 : 0;
            outcome(() -> z.isolate(slot));
        }
        due("call 512 of isolations", 2, () -> z.bisect(0));
    }

    /** What later calls answer is free; but none may throw what the machine throws, or fail to end. */
    private static void beyond512() {
        SturmRoots x = withGreat(9999, -9973, 9967, 9949, -9941, 9931, 9929);
        x.isolate(0);
        for (int level = 0; level < 12; level++) {
            for (int i = x.intervals() - 1; i >= 0; i--) {
                int index = i;
                late(() -> x.bisect(index));
            }
        }
        for (int index : new int[] {0, 1, 2047, 4095, 4096, LEAST, GREATEST}) {
            late(() -> x.bisect(index));
            late(() -> x.refine(index, 1));
            late(() -> x.multiplicity(index));
            late(() -> x.rootsIn(index));
            late(() -> x.interval(index, 'n'));
        }
        late(() -> x.checksum());
        late(() -> x.removeEmpty());
        late(() -> x.isTrue(0));
        late(() -> x.isolate(0));
    }

    private static void late(Supplier<Object> call) {
        Object got = outcome(call);
        boolean isOwn = got instanceof Number || got instanceof Boolean
                || Set.of(INDEX, ARGUMENT, STATE, ARITHMETIC, NO_ELEMENT).contains(got);
        due("a call after the 512th with " + got, true, () -> isOwn);
    }

    /** No object tells of another one. */
    private static void twoObjects() {
        SturmRoots x = with(-2, 0, 1);
        SturmRoots y = with(3, 1);
        x.isolate(0);
        y.isolate(0);
        x.bisect(0);
        due("the one", "1:-8:0=1 1:0:8=1", () -> parts(x));
        due("the other", "0:-4:4=1", () -> parts(y));
        due("the sequence of the one", 3, () -> x.sturmLength(0));
        due("the sequence of the other", 2, () -> y.sturmLength(0));
        due("the multiplicity in the one", 1, () -> x.multiplicity(1));
    }

    private static void run(String name, Runnable test) {
        begin(name);
        test.run();
    }

    public static void main(String[] args) {
        run("values", EdgesTest::values);
        run("sums", EdgesTest::sums);
        run("products", EdgesTest::products);
        run("derivatives", EdgesTest::derivatives);
        run("shifts", EdgesTest::shifts);
        run("reflections", EdgesTest::reflections);
        run("scales", EdgesTest::scales);
        run("divisors", EdgesTest::divisors);
        run("square-free parts", EdgesTest::squareFreeParts);
        run("results in the slots that are read", EdgesTest::sameSlots);
        run("sequences", EdgesTest::sequences);
        run("powers above the degree", EdgesTest::aboveTheDegree);
        run("coefficients that wrap around", EdgesTest::coefficientsThatWrapAround);
        run("sign changes", EdgesTest::changes);
        run("signs", EdgesTest::signs);
        run("equal points", EdgesTest::equalPoints);
        run("counts", EdgesTest::counts);
        run("distinct roots", EdgesTest::distinct);
        run("bounds", EdgesTest::bounds);
        run("beginnings", EdgesTest::beginnings);
        run("point intervals", EdgesTest::pointIntervals);
        run("level 12", EdgesTest::level12);
        run("greatest numbers", EdgesTest::greatestNumbers);
        run("refinements", EdgesTest::refinements);
        run("multiplicities", EdgesTest::multiplicities);
        run("the theorem", EdgesTest::theorem);
        run("checksums", EdgesTest::checksums);
        run("512 calls", EdgesTest::call512);
        run("calls after the 512th", EdgesTest::beyond512);
        run("two objects", EdgesTest::twoObjects);
        finish();
    }
}
