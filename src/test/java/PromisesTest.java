/** At least one test for each promise of the document: ordinary inputs, edges and wrong inputs. */
public final class PromisesTest extends TestBase {
    private static final int[] NO_SLOTS = {-1, 5, LEAST, GREATEST};

    private static long sum(int... values) {
        long c = 7;
        for (int value : values) {
            c = 31 * c + value;
        }
        return c;
    }

    private static void promise1() {
        SturmRoots x = new SturmRoots();
        for (int slot = 0; slot < 5; slot++) {
            int s = slot;
            due("degree of a new slot", -1, () -> x.degree(s));
            due("coefficients of a new slot", "0 0 0 0 0 0 0", () -> text(x, s));
        }
        due("intervals of a new object", 0, () -> x.intervals());
        due("rootsIn without an isolation", INDEX, () -> x.rootsIn(0));
        due("checksum of a new object", sum(new int[36]), () -> x.checksum());
        SturmRoots other = new SturmRoots();
        x.set(0, 0, 5);
        due("one object after a call of another", -1, () -> other.degree(0));
    }

    private static void promise2() {
        SturmRoots x = new SturmRoots();
        due("set(0, 3, 99)", 3, () -> x.set(0, 3, 99));
        due("set(0, 1, -99)", 3, () -> x.set(0, 1, -99));
        due("set(0, 6, 1)", 6, () -> x.set(0, 6, 1));
        due("set(0, 6, 0)", 3, () -> x.set(0, 6, 0));
        due("set(0, 3, 0)", 1, () -> x.set(0, 3, 0));
        due("set(0, 1, 0)", -1, () -> x.set(0, 1, 0));
        due("set(4, 0, -1)", 0, () -> x.set(4, 0, -1));
        for (int bad : NO_SLOTS) {
            due("set(" + bad + ", 0, 1)", INDEX, () -> x.set(bad, 0, 1));
            due("set(" + bad + ", 0, 100)", INDEX, () -> x.set(bad, 0, 100));
        }
        for (int bad : new int[] {-1, 7, LEAST, GREATEST}) {
            due("set(0, " + bad + ", 1)", INDEX, () -> x.set(0, bad, 1));
            due("set(0, " + bad + ", 100)", INDEX, () -> x.set(0, bad, 100));
        }
        for (int bad : new int[] {-100, 100, LEAST, GREATEST}) {
            due("set(0, 0, " + bad + ")", ARGUMENT, () -> x.set(0, 0, bad));
        }
        due("what rejected calls left", sum(0, 0, 0, 0, 0, 0, 0, 0, 0, 0, 0, 0, 0, 0, 0, 0, 0, 0, 0, 0, 0,
                0, 0, 0, 0, 0, 0, 0, -1, 0, 0, 0, 0, 0, 0, 0), () -> x.checksum());
    }

    private static void promise3() {
        SturmRoots x = with(1, -2, 3, -4, 5, -6, 7);
        due("coefficients", "1 -2 3 -4 5 -6 7", () -> text(x, 0));
        due("coefficients of another slot", "0 0 0 0 0 0 0", () -> text(x, 1));
        for (int bad : NO_SLOTS) {
            due("coefficient(" + bad + ", 0)", INDEX, () -> x.coefficient(bad, 0));
        }
        for (int bad : new int[] {-1, 7, LEAST, GREATEST}) {
            due("coefficient(0, " + bad + ")", INDEX, () -> x.coefficient(0, bad));
        }
    }

    private static void promise4() {
        due("degree of zero", -1, () -> with().degree(0));
        due("degree of a constant", 0, () -> with(-4).degree(0));
        due("degree of x^6", 6, () -> with(0, 0, 0, 0, 0, 0, 1).degree(0));
        due("degree of a negative lead", 2, () -> with(1, 0, -1).degree(0));
        for (int bad : NO_SLOTS) {
            due("degree(" + bad + ")", INDEX, () -> with().degree(bad));
        }
    }

    private static void promise5() {
        SturmRoots x = with(1, 2, 3);
        due("copy(0, 4)", 2, () -> x.copy(0, 4));
        due("the copy", "1 2 3 0 0 0 0", () -> text(x, 4));
        x.set(0, 2, 9);
        due("the copy after a change", "1 2 3 0 0 0 0", () -> text(x, 4));
        due("copy(0, 0)", 2, () -> x.copy(0, 0));
        due("copied onto itself", "1 2 9 0 0 0 0", () -> text(x, 0));
        due("copy(1, 4)", -1, () -> x.copy(1, 4));
        due("the copy of zero", "0 0 0 0 0 0 0", () -> text(x, 4));
        for (int bad : NO_SLOTS) {
            due("copy(" + bad + ", 0)", INDEX, () -> x.copy(bad, 0));
            due("copy(0, " + bad + ")", INDEX, () -> x.copy(0, bad));
        }
    }

    private static void promise6() {
        SturmRoots x = with(1, -2, 3);
        put(x, 1, 4, 5, -3);
        due("add(0, 1, 2)", 1, () -> x.add(0, 1, 2));
        due("the sum", "5 3 0 0 0 0 0", () -> text(x, 2));
        due("add(0, 0, 0)", 2, () -> x.add(0, 0, 0));
        due("the double", "2 -4 6 0 0 0 0", () -> text(x, 0));
        due("add(4, 4, 0)", -1, () -> x.add(4, 4, 0));
        putGreat(x, 0, 9999, 1);
        due("9999", 9999, () -> x.coefficient(0, 0));
        put(x, 1, 1);
        due("add that makes 10000", STATE, () -> x.add(0, 1, 0));
        due("what the rejected sum left", "9999 1 0 0 0 0 0", () -> text(x, 0));
        put(x, 1, -1);
        due("add that makes 9998", 1, () -> x.add(0, 1, 0));
        putGreat(x, 0, -9999);
        due("add that makes -10000", STATE, () -> x.add(1, 0, 2));
        for (int bad : NO_SLOTS) {
            due("add(" + bad + ", 0, 0)", INDEX, () -> x.add(bad, 0, 0));
            due("add(0, " + bad + ", 0)", INDEX, () -> x.add(0, bad, 0));
            due("add(0, 0, " + bad + ")", INDEX, () -> x.add(0, 0, bad));
        }
    }

    private static void promise7() {
        SturmRoots x = with(-1, 1);
        put(x, 1, 2, 3, 1);
        due("multiply(0, 1, 2)", 3, () -> x.multiply(0, 1, 2));
        due("the product", "-2 -1 2 1 0 0 0", () -> text(x, 2));
        due("multiply(2, 2, 2)", 6, () -> x.multiply(2, 2, 2));
        due("the square", "4 4 -7 -8 2 4 1", () -> text(x, 2));
        due("degree 7", STATE, () -> x.multiply(2, 0, 3));
        due("degree 12", STATE, () -> x.multiply(2, 2, 2));
        due("what they left", "4 4 -7 -8 2 4 1", () -> text(x, 2));
        due("by zero", -1, () -> x.multiply(2, 4, 3));
        due("zero by zero", -1, () -> x.multiply(4, 4, 3));
        put(x, 0, 99);
        due("99 * 99", 0, () -> x.multiply(0, 0, 1));
        due("9801", 9801, () -> x.coefficient(1, 0));
        put(x, 2, 2);
        due("9801 * 2", STATE, () -> x.multiply(1, 2, 1));
        put(x, 2, -2);
        due("9801 * -2", STATE, () -> x.multiply(1, 2, 1));
        putGreat(x, 2, 9999, 9999, 9999, 9999, 9999, 9999, 9999);
        put(x, 1, 1);
        due("9999 * 1", 6, () -> x.multiply(2, 1, 0));
        put(x, 0, 0, 0, 0, 0, 0, 0, 1);
        due("x^6 * x^6", STATE, () -> x.multiply(0, 0, 0));
        for (int bad : NO_SLOTS) {
            due("multiply(" + bad + ", 0, 0)", INDEX, () -> x.multiply(bad, 0, 0));
            due("multiply(0, " + bad + ", 0)", INDEX, () -> x.multiply(0, bad, 0));
            due("multiply(0, 0, " + bad + ")", INDEX, () -> x.multiply(0, 0, bad));
        }
    }

    private static void promise8() {
        SturmRoots x = with(9, 8, 7, 6, 5, 4, 3);
        due("derivative(0, 1)", 5, () -> x.derivative(0, 1));
        due("the derivative", "8 14 18 20 20 18 0", () -> text(x, 1));
        due("derivative(1, 1)", 4, () -> x.derivative(1, 1));
        due("the second derivative", "14 36 60 80 90 0 0", () -> text(x, 1));
        put(x, 2, 5);
        due("of a constant", -1, () -> x.derivative(2, 1));
        due("of zero", -1, () -> x.derivative(4, 1));
        putGreat(x, 0, 0, 9999, 0, 3333);
        due("9999 = 3 * 3333", 2, () -> x.derivative(0, 0));
        due("its coefficients", "9999 0 9999 0 0 0 0", () -> text(x, 0));
        putGreat(x, 0, 0, 0, -5000);
        due("-10000", STATE, () -> x.derivative(0, 0));
        due("what it left", "0 0 -5000 0 0 0 0", () -> text(x, 0));
        for (int bad : NO_SLOTS) {
            due("derivative(" + bad + ", 0)", INDEX, () -> x.derivative(bad, 0));
            due("derivative(0, " + bad + ")", INDEX, () -> x.derivative(0, bad));
        }
    }

    private static void promise9() {
        SturmRoots x = with(1, 0, 2, 0, 0, 0, 1);
        due("shift(0, 1, 1)", 6, () -> x.shift(0, 1, 1));
        due("p(x + 1)", "4 10 17 20 15 6 1", () -> text(x, 1));
        due("shift(1, -1, 1)", 6, () -> x.shift(1, -1, 1));
        due("shifted back", "1 0 2 0 0 0 1", () -> text(x, 1));
        due("shift(0, 0, 1)", 6, () -> x.shift(0, 0, 1));
        due("not shifted", "1 0 2 0 0 0 1", () -> text(x, 1));
        put(x, 0, 0, 0, 1);
        due("shift by 9", 2, () -> x.shift(0, 9, 0));
        due("(x + 9)^2", "81 18 1 0 0 0 0", () -> text(x, 0));
        due("shift by -9", 2, () -> x.shift(0, -9, 0));
        due("x^2", "0 0 1 0 0 0 0", () -> text(x, 0));
        due("shift of zero", -1, () -> x.shift(4, 9, 1));
        put(x, 0, 0, 0, 0, 0, 0, 0, 99);
        due("a result too great", STATE, () -> x.shift(0, 9, 1));
        due("a result too small", STATE, () -> x.shift(0, -9, 0));
        due("what it left", "0 0 0 0 0 0 99", () -> text(x, 0));
        for (int bad : new int[] {-10, 10, LEAST, GREATEST}) {
            due("by " + bad, ARGUMENT, () -> x.shift(0, bad, 0));
            due("by " + bad + " to 5", INDEX, () -> x.shift(0, bad, 5));
        }
        for (int bad : NO_SLOTS) {
            due("shift(" + bad + ", 0, 0)", INDEX, () -> x.shift(bad, 0, 0));
            due("shift(0, 9, " + bad + ")", INDEX, () -> x.shift(0, 9, bad));
        }
    }

    private static void promise10() {
        SturmRoots x = with(1, 2, 3, 4, 5, 6, 7);
        due("reflect(0, 1)", 6, () -> x.reflect(0, 1));
        due("p(-x)", "1 -2 3 -4 5 -6 7", () -> text(x, 1));
        due("reflect(1, 1)", 6, () -> x.reflect(1, 1));
        due("p", "1 2 3 4 5 6 7", () -> text(x, 1));
        due("of zero", -1, () -> x.reflect(4, 1));
        for (int bad : NO_SLOTS) {
            due("reflect(" + bad + ", 0)", INDEX, () -> x.reflect(bad, 0));
            due("reflect(0, " + bad + ")", INDEX, () -> x.reflect(0, bad));
        }
    }

    private static void promise11() {
        SturmRoots x = with(1, 2, 0, 3);
        due("scale(0, 2, 1)", 3, () -> x.scale(0, 2, 1));
        due("scaled", "8 8 0 3 0 0 0", () -> text(x, 1));
        due("scale(0, 9, 1)", 3, () -> x.scale(0, 9, 1));
        due("scaled by 9", "729 162 0 3 0 0 0", () -> text(x, 1));
        due("of zero", -1, () -> x.scale(4, 9, 1));
        due("the zero", "0 0 0 0 0 0 0", () -> text(x, 1));
        put(x, 0, 7);
        due("of a constant", 0, () -> x.scale(0, 9, 0));
        due("the constant", "7 0 0 0 0 0 0", () -> text(x, 0));
        put(x, 0, 99, 0, 0, 0, 0, 0, 1);
        due("a result too great", STATE, () -> x.scale(0, 9, 0));
        put(x, 0, -99, 0, 0, 0, 0, 0, 1);
        due("a result too small", STATE, () -> x.scale(0, 9, 0));
        due("what it left", "-99 0 0 0 0 0 1", () -> text(x, 0));
        for (int bad : new int[] {1, 0, -2, 10, LEAST, GREATEST}) {
            due("by " + bad, ARGUMENT, () -> x.scale(0, bad, 0));
            due("by " + bad + " to 5", INDEX, () -> x.scale(0, bad, 5));
        }
        for (int bad : NO_SLOTS) {
            due("scale(" + bad + ", 2, 0)", INDEX, () -> x.scale(bad, 2, 0));
            due("scale(0, 2, " + bad + ")", INDEX, () -> x.scale(0, 2, bad));
        }
    }

    private static void promise12() {
        SturmRoots x = with(2, -3, 1);
        put(x, 1, 4, -6, 2);
        due("gcd(0, 1, 2)", 2, () -> x.gcd(0, 1, 2));
        due("of p and 2 p", "2 -3 1 0 0 0 0", () -> text(x, 2));
        put(x, 1, 6, -5, -1);
        due("a common root", 1, () -> x.gcd(0, 1, 2));
        due("x - 1", "-1 1 0 0 0 0 0", () -> text(x, 2));
        put(x, 1, 1, 0, 1);
        due("no common root", 0, () -> x.gcd(0, 1, 2));
        due("1", "1 0 0 0 0 0 0", () -> text(x, 2));
        put(x, 1, 6, 0, -4);
        due("with zero", 2, () -> x.gcd(4, 1, 2));
        due("the primitive part, with a positive lead", "-3 0 2 0 0 0 0", () -> text(x, 2));
        due("zero with it", 2, () -> x.gcd(1, 4, 1));
        due("the same", "-3 0 2 0 0 0 0", () -> text(x, 1));
        due("of zeros", -1, () -> x.gcd(4, 4, 2));
        put(x, 1, -6);
        put(x, 2, 4);
        due("of constants", 0, () -> x.gcd(1, 2, 2));
        due("of constants, 1", "1 0 0 0 0 0 0", () -> text(x, 2));
        // (1 - x)(1 + x + ... + x^5) = 1 - x^6, and its factor of the second degree
        put(x, 1, -1, 0, 0, 0, 0, 0, 1);
        put(x, 2, 2, 2, 2);
        due("of x^6 - 1", 2, () -> x.gcd(1, 2, 0));
        due("x^2 + x + 1", "1 1 1 0 0 0 0", () -> text(x, 0));
        rejectedGcd();
        for (int bad : NO_SLOTS) {
            due("gcd(" + bad + ", 0, 0)", INDEX, () -> x.gcd(bad, 0, 0));
            due("gcd(0, " + bad + ", 0)", INDEX, () -> x.gcd(0, bad, 0));
            due("gcd(0, 0, " + bad + ")", INDEX, () -> x.gcd(0, 0, bad));
        }
    }

    /** A divisor may have greater coefficients than what it divides, so it may be rejected. */
    private static void rejectedGcd() {
        SturmRoots x = new SturmRoots();
        // g = 5000 - 10001 x + 10001 x^2 - 5000 x^3; g (1 + x) = 5000 - 5001 x + 5001 x^3 - 5000 x^4
        putGreat(x, 0, 5000, -5001, 0, 5001, -5000);
        // g (1 + x)^2 = 5000 - x - 5001 x^2 + 5001 x^3 + x^4 - 5000 x^5
        putGreat(x, 1, 5000, -1, -5001, 5001, 1, -5000);
        due("the stored product", "5000 -5001 0 5001 -5000 0 0", () -> text(x, 0));
        due("gcd of both products", 4, () -> x.gcd(0, 1, 2));
        // g (1 + x + x^2) = 5000 - 5001 x + 5000 x^2 - 5000 x^3 + 5001 x^4 - 5000 x^5
        putGreat(x, 1, 5000, -5001, 5000, -5000, 5001, -5000);
        long before = x.checksum();
        due("a gcd with 10001", STATE, () -> x.gcd(0, 1, 2));
        due("what it left", before, () -> x.checksum());
    }

    private static void promise13() {
        SturmRoots x = with(2, -3, 0, 1);
        due("of (x - 1)^2 (x + 2)", 2, () -> x.squareFreePart(0, 1));
        due("(x - 1)(x + 2)", "-2 1 1 0 0 0 0", () -> text(x, 1));
        put(x, 0, 4, 0, -4);
        due("of 4 - 4 x^2", 2, () -> x.squareFreePart(0, 0));
        due("x^2 - 1", "-1 0 1 0 0 0 0", () -> text(x, 0));
        put(x, 0, 0, 0, 0, 0, 0, 0, -7);
        due("of -7 x^6", 1, () -> x.squareFreePart(0, 0));
        due("x", "0 1 0 0 0 0 0", () -> text(x, 0));
        put(x, 0, -9);
        due("of a constant", 0, () -> x.squareFreePart(0, 0));
        due("1", "1 0 0 0 0 0 0", () -> text(x, 0));
        due("of zero", ARITHMETIC, () -> x.squareFreePart(4, 0));
        due("what it left", "1 0 0 0 0 0 0", () -> text(x, 0));
        // (1 + x)^2 (5000 - 10001 x + 10001 x^2 - 5000 x^3)
        putGreat(x, 0, 5000, -1, -5001, 5001, 1, -5000);
        due("with a squared factor", 4, () -> x.squareFreePart(0, 1));
        due("its coefficients", "-5000 5001 0 -5001 5000 0 0", () -> text(x, 1));
        // (1 - x) (5001 + 10001 x + 4999 x^2 - 4999 x^3 - 10001 x^4 - 5001 x^5), where 1 is a root of both
        putGreat(x, 0, 5001, 5000, -5002, -9998, -5002, 5000, 5001);
        long before = x.checksum();
        due("a square-free part with 10001", STATE, () -> x.squareFreePart(0, 0));
        due("what it left, too", before, () -> x.checksum());
        for (int bad : NO_SLOTS) {
            due("squareFreePart(" + bad + ", 0)", INDEX, () -> x.squareFreePart(bad, 0));
            due("squareFreePart(4, " + bad + ")", INDEX, () -> x.squareFreePart(4, bad));
        }
    }

    private static void promise14() {
        due("of a constant", 1, () -> with(-4).sturmLength(0));
        due("of x", 2, () -> with(0, 1).sturmLength(0));
        due("of x^2 - 2", 3, () -> with(-2, 0, 1).sturmLength(0));
        due("of x^6", 2, () -> with(0, 0, 0, 0, 0, 0, 3).sturmLength(0));
        due("of (x - 1)^2 (x + 2)", 3, () -> with(2, -3, 0, 1).sturmLength(0));
        due("of the degree 6", 7, () -> with(1, 2, 3, -4, 5, -6, 7).sturmLength(0));
        due("of x^6 + x + 1, with a gap", 4, () -> with(1, 1, 0, 0, 0, 0, 1).sturmLength(0));
        due("of zero", ARITHMETIC, () -> with().sturmLength(0));
        for (int bad : NO_SLOTS) {
            due("sturmLength(" + bad + ")", INDEX, () -> with().sturmLength(bad));
        }
    }

    private static String element(SturmRoots x, int index) {
        StringBuilder result = new StringBuilder();
        for (int i = 0; i <= x.sturmDegree(0, index); i++) {
            result.append(i == 0 ? "" : " ").append(x.sturmCoefficient(0, index, i));
        }
        return result.toString();
    }

    private static void promise15() {
        SturmRoots x = with(6, 0, -4, 0, 2);
        due("the first element, primitive", "3 0 -2 0 1", () -> element(x, 0));
        due("the derivative, primitive", "0 -1 0 1", () -> element(x, 1));
        due("the negated remainder", "-3 0 1", () -> element(x, 2));
        due("the next one", "0 -1", () -> element(x, 3));
        due("the last one", "1", () -> element(x, 4));
        due("beyond the degree", 0L, () -> x.sturmCoefficient(0, 2, 6));
        due("with a negative lead", "4 0 -1", () -> element(with(8, 0, -2), 0));
        due("and its derivative", "0 -1", () -> element(with(8, 0, -2), 1));
        due("and its remainder", "-1", () -> element(with(8, 0, -2), 2));
        due("of a constant", -1L, () -> with(-7).sturmCoefficient(0, 0, 0));
        due("index 5 of 5", NO_ELEMENT, () -> x.sturmCoefficient(0, 5, 0));
        due("index -1", NO_ELEMENT, () -> x.sturmCoefficient(0, -1, 0));
        due("the greatest index", NO_ELEMENT, () -> x.sturmCoefficient(0, GREATEST, 0));
        due("of zero", ARITHMETIC, () -> x.sturmCoefficient(1, 0, 0));
        due("of zero, without such an element", ARITHMETIC, () -> x.sturmCoefficient(1, -1, 0));
        for (int bad : new int[] {-1, 7, LEAST, GREATEST}) {
            due("power " + bad, INDEX, () -> x.sturmCoefficient(0, 0, bad));
            due("power " + bad + " of zero", INDEX, () -> x.sturmCoefficient(1, -1, bad));
        }
        for (int bad : NO_SLOTS) {
            due("slot " + bad, INDEX, () -> x.sturmCoefficient(bad, 0, 0));
        }
        greatCoefficients();
    }

    /** Numbers of 114 and 115 bits; what is due comes from another program, with rational numbers. */
    private static void greatCoefficients() {
        SturmRoots x = new SturmRoots();
        putGreat(x, 0, 9999, -9973, 9967, 9949, -9941, 9931, 9929);
        due("lowest 64 bits, constant term", -4190510794154288643L, () -> x.sturmCoefficient(0, 5, 0));
        due("lowest 64 bits, linear term", -237368847096107794L, () -> x.sturmCoefficient(0, 5, 1));
    }

    private static void promise16() {
        SturmRoots x = with(6, 0, -4, 0, 2);
        for (int i = 0; i < 5; i++) {
            int index = i;
            due("sturmDegree(0, " + i + ")", 4 - i, () -> x.sturmDegree(0, index));
        }
        due("with a gap", 1, () -> with(1, 1, 0, 0, 0, 0, 1).sturmDegree(0, 2));
        due("of a constant", 0, () -> with(-7).sturmDegree(0, 0));
        due("index 5 of 5", NO_ELEMENT, () -> x.sturmDegree(0, 5));
        due("index 7", NO_ELEMENT, () -> x.sturmDegree(0, 7));
        due("index -1", NO_ELEMENT, () -> x.sturmDegree(0, -1));
        due("of zero", ARITHMETIC, () -> x.sturmDegree(1, -1));
        for (int bad : NO_SLOTS) {
            due("slot " + bad, INDEX, () -> x.sturmDegree(bad, 0));
        }
    }

    private static void promise17() {
        SturmRoots x = with(-2, 0, 1);
        due("of x^2 - 2 at -2", 2, () -> x.signChanges(0, -2, 0));
        due("at 0, where the second element is 0", 1, () -> x.signChanges(0, 0, 0));
        due("at 5/4", 1, () -> x.signChanges(0, 5, 2));
        due("at 3/2", 0, () -> x.signChanges(0, 3, 1));
        due("at the least point", 2, () -> x.signChanges(0, -1000000, 0));
        due("at the greatest point", 0, () -> x.signChanges(0, 1000000, 0));
        due("at a multiple root", 0, () -> with(0, 0, 1).signChanges(0, 0, 12));
        due("of a constant", 0, () -> with(5).signChanges(0, 1, 12));
        badPoints("signChanges", x, (slot, n, k) -> x.signChanges(slot, n, k));
        due("of zero", ARITHMETIC, () -> x.signChanges(1, 0, 0));
    }

    private interface AtPoint {
        int call(int slot, int n, int k);
    }

    private static void badPoints(String name, SturmRoots x, AtPoint method) {
        for (int bad : new int[] {-1000001, 1000001, LEAST, GREATEST}) {
            due(name + " with n = " + bad, ARGUMENT, () -> method.call(0, bad, 0));
            due(name + " of zero with n = " + bad, ARGUMENT, () -> method.call(1, bad, 0));
        }
        for (int bad : new int[] {-1, 13, 32, LEAST, GREATEST}) {
            due(name + " with k = " + bad, ARGUMENT, () -> method.call(0, 0, bad));
            due(name + " of zero with k = " + bad, ARGUMENT, () -> method.call(1, 0, bad));
        }
        for (int bad : NO_SLOTS) {
            due(name + " of slot " + bad, INDEX, () -> method.call(bad, 0, 13));
        }
    }

    private static void promise18() {
        SturmRoots x = with(-9, 0, 4);
        due("of 4 x^2 - 9 at 3/2", 0, () -> x.sign(0, 3, 1));
        due("at -6144 / 4096", 0, () -> x.sign(0, -6144, 12));
        due("at 6143 / 4096", -1, () -> x.sign(0, 6143, 12));
        due("at 6145 / 4096", 1, () -> x.sign(0, 6145, 12));
        due("at 0", -1, () -> x.sign(0, 0, 0));
        due("at the least point", 1, () -> x.sign(0, -1000000, 0));
        due("of -x^5 at the greatest point", -1, () -> with(0, 0, 0, 0, 0, -1).sign(0, 1000000, 0));
        due("of a constant", -1, () -> with(-1).sign(0, 5, 5));
        due("of zero", 0, () -> x.sign(1, 1000000, 12));
        SturmRoots y = new SturmRoots();
        putGreat(y, 0, -9999, 0, 0, 0, 0, 0, 9999);
        due("of 9999 x^6 - 9999 at 1", 0, () -> y.sign(0, 4096, 12));
        due("at 1000000", 1, () -> y.sign(0, 1000000, 0));
        badPoints("sign", x, (slot, n, k) -> x.sign(slot, n, k));
    }

    private interface Count {
        int call(int slot, int n, int k, int m, int l);
    }

    private static void badCounts(String name, Count method) {
        for (int bad : new int[] {-1000001, 1000001, LEAST, GREATEST}) {
            due(name + " with n = " + bad, ARGUMENT, () -> method.call(0, bad, 0, 1000000, 0));
            due(name + " with m = " + bad, ARGUMENT, () -> method.call(0, -1000000, 0, bad, 0));
        }
        for (int bad : new int[] {-1, 13, LEAST, GREATEST}) {
            due(name + " with k = " + bad, ARGUMENT, () -> method.call(0, -9, bad, 9, 0));
            due(name + " with l = " + bad, ARGUMENT, () -> method.call(0, -9, 0, 9, bad));
        }
        due(name + " of equal points", ARGUMENT, () -> method.call(0, 1, 0, 4096, 12));
        due(name + " of points in the wrong order", ARGUMENT, () -> method.call(0, 1, 0, 1000, 12));
        due(name + " of zero with equal points", ARGUMENT, () -> method.call(4, 0, 0, 0, 12));
        due(name + " of zero", ARITHMETIC, () -> method.call(4, 0, 0, 1, 12));
        due(name + " from a root", STATE, () -> method.call(0, 1, 0, 9, 0));
        due(name + " to a root", STATE, () -> method.call(0, -9, 0, 1024, 10));
        for (int bad : NO_SLOTS) {
            due(name + " of slot " + bad, INDEX, () -> method.call(bad, 0, 0, 0, 13));
        }
    }

    private static void promise19() {
        // (x - 1)^2 (x + 2)
        SturmRoots x = with(2, -3, 0, 1);
        due("between -3 and 2", 2, () -> x.countDistinct(0, -3, 0, 2, 0));
        due("between 0 and 2", 1, () -> x.countDistinct(0, 0, 0, 2, 0));
        due("between -1 and 1023/1024", 0, () -> x.countDistinct(0, -1, 0, 1023, 10));
        due("between 4095/4096 and 4097/4096", 1, () -> x.countDistinct(0, 4095, 12, 4097, 12));
        due("between the ends", 2, () -> x.countDistinct(0, -1000000, 0, 1000000, 0));
        due("of a constant", 0, () -> with(3).countDistinct(0, -9, 0, 9, 0));
        due("of x^2 - 2", 2, () -> with(-2, 0, 1).countDistinct(0, -3, 1, 3, 1));
        badCounts("countDistinct", (slot, n, k, m, l) -> x.countDistinct(slot, n, k, m, l));
    }

    private static void promise20() {
        SturmRoots x = with(2, -3, 0, 1);
        due("between -3 and 2", 3, () -> x.countAll(0, -3, 0, 2, 0));
        due("between 0 and 2", 2, () -> x.countAll(0, 0, 0, 2, 0));
        due("between -3 and 0", 1, () -> x.countAll(0, -3, 0, 0, 0));
        due("between -1 and 0", 0, () -> x.countAll(0, -1, 0, 0, 0));
        due("of x^6", 6, () -> with(0, 0, 0, 0, 0, 0, 5).countAll(0, -1, 12, 1, 12));
        due("of (x^2 + 1)^2 (x - 1)", 1, () -> with(-1, 1, -2, 2, -1, 1).countAll(0, -9, 0, 9, 0));
        due("of (x^2 - 2)^2", 2, () -> with(4, 0, -4, 0, 1).countAll(0, 1, 0, 2, 0));
        due("of a constant", 0, () -> with(3).countAll(0, -9, 0, 9, 0));
        badCounts("countAll", (slot, n, k, m, l) -> x.countAll(slot, n, k, m, l));
    }

    private static void promise21() {
        due("of (x - 1)^2 (x + 2)", 2, () -> with(2, -3, 0, 1).distinctRoots(0));
        due("of x^2 + 1", 0, () -> with(1, 0, 1).distinctRoots(0));
        due("of x^6", 1, () -> with(0, 0, 0, 0, 0, 0, 2).distinctRoots(0));
        due("of a constant", 0, () -> with(-2).distinctRoots(0));
        // x (x^2 - 1)(x^2 - 4), and that times x - 3
        due("of five roots", 5, () -> with(0, 4, 0, -5, 0, 1).distinctRoots(0));
        due("of six roots", 6, () -> with(0, -12, 4, 15, -5, -3, 1).distinctRoots(0));
        SturmRoots x = new SturmRoots();
        putGreat(x, 0, 9999, -9999, 1);
        due("with a root near 9998", 2, () -> x.distinctRoots(0));
        putGreat(x, 0, -9999, -1);
        due("with the root -9999", 1, () -> x.distinctRoots(0));
        due("of zero", ARITHMETIC, () -> x.distinctRoots(4));
        for (int bad : NO_SLOTS) {
            due("distinctRoots(" + bad + ")", INDEX, () -> x.distinctRoots(bad));
        }
    }

    private static void promise22() {
        due("+ + -", 1, () -> with(1, 2, -3).coefficientSignChanges(0));
        due("+ 0 - 0 + 0 -", 3, () -> with(1, 0, -1, 0, 1, 0, -1).coefficientSignChanges(0));
        due("six changes", 6, () -> with(-1, 1, -1, 1, -1, 1, -1).coefficientSignChanges(0));
        due("no change", 0, () -> with(-1, -2, 0, -3).coefficientSignChanges(0));
        due("of zero", 0, () -> with().coefficientSignChanges(0));
        for (int bad : NO_SLOTS) {
            due("coefficientSignChanges(" + bad + ")", INDEX, () -> with().coefficientSignChanges(bad));
        }
    }

    private static String isolated(int... coefficients) {
        SturmRoots x = with(coefficients);
        int roots = x.isolate(0);
        return roots + " " + parts(x);
    }

    private static void promise23() {
        due("of x^2 - 2", "2 0:-4:4=2", () -> isolated(-2, 0, 1));
        due("of x - 1: b - 1 is not less than 1", "1 0:-2:2=1", () -> isolated(-1, 1));
        due("of x - 3", "1 0:-4:4=1", () -> isolated(-3, 1));
        due("of x - 4", "1 0:-8:8=1", () -> isolated(-4, 1));
        due("of 2 x - 3", "1 0:-4:4=1", () -> isolated(-3, 2));
        due("of -3 x^2 + 3", "2 0:-2:2=2", () -> isolated(3, 0, -3));
        due("of x^4", "1 0:-1:1=1", () -> isolated(0, 0, 0, 0, 7));
        due("of a constant", "0 0:-1:1=0", () -> isolated(-9));
        due("of x^2 + 99", "0 0:-128:128=0", () -> isolated(99, 0, 1));
        SturmRoots x = new SturmRoots();
        putGreat(x, 0, 0, 9999, -1);
        due("of 9999 x - x^2", 2, () -> x.isolate(0));
        due("its interval", "0:-16384:16384=2", () -> parts(x));
        x.bisect(0);
        due("bisected", "1:-32768:0=0 1:0:0=1 1:0:32768=1", () -> parts(x));
        due("of zero", ARITHMETIC, () -> x.isolate(4));
        due("the earlier isolation stands", "1:-32768:0=0 1:0:0=1 1:0:32768=1", () -> parts(x));
        put(x, 0, 1, 1);
        due("a change of the slot has no effect", "1:-32768:0=0 1:0:0=1 1:0:32768=1", () -> parts(x));
        due("refined by the polynomial that it keeps", 7, () -> x.refine(2, 6));
        due("around 9999", "7:1277952:1310720=1", () -> part(x, 2));
        due("a new one in its place", 1, () -> x.isolate(0));
        due("its interval alone", "0:-2:2=1", () -> parts(x));
        for (int bad : NO_SLOTS) {
            due("isolate(" + bad + ")", INDEX, () -> x.isolate(bad));
        }
    }

    private static void promise24() {
        SturmRoots x = with(-2, 0, 1);
        due("without an isolation", 0, () -> x.intervals());
        x.isolate(0);
        due("with one", 1, () -> x.intervals());
        x.bisect(0);
        x.bisect(0);
        due("after two bisections", 3, () -> x.intervals());
        x.removeEmpty();
        due("without the empty one", 2, () -> x.intervals());
        x.isolate(0);
        due("begun again", 1, () -> x.intervals());
        put(x, 0, 1);
        x.isolate(0);
        x.removeEmpty();
        due("when none is left", 0, () -> x.intervals());
    }

    private static void badIndices(String name, SturmRoots x, java.util.function.IntFunction<Object> method) {
        for (int bad : new int[] {-1, x.intervals(), LEAST, GREATEST}) {
            due(name + " of interval " + bad, INDEX, () -> method.apply(bad));
        }
        due(name + " without an isolation", INDEX, () -> method.apply(x.intervals()));
    }

    private static void promise25() {
        // x (x^2 - 1)(x^2 - 4)
        SturmRoots x = with(0, 4, 0, -5, 0, 1);
        x.isolate(0);
        due("of -8 to 8", 5, () -> x.rootsIn(0));
        x.bisect(0);
        due("of -8 to 0", 2, () -> x.rootsIn(0));
        due("of 0", 1, () -> x.rootsIn(1));
        due("of 0 to 8", 2, () -> x.rootsIn(2));
        x.bisect(2);
        x.bisect(2);
        x.bisect(2);
        due("ends that are roots do not count",
                "1:-16:0=2 1:0:0=1 4:0:16=0 4:16:16=1 4:16:32=0 3:16:16=1 3:16:32=0 2:16:32=0", () -> parts(x));
        due("multiple roots count once", "2 0:-4:4=2", () -> isolated(2, -3, 0, 1));
        badIndices("rootsIn", x, index -> x.rootsIn(index));
        badIndices("rootsIn", new SturmRoots(), index -> new SturmRoots().rootsIn(index));
    }

    private static void promise26() {
        SturmRoots x = with(-2, 0, 1);
        x.isolate(0);
        x.bisect(0);
        x.refine(1, 3);
        due("d", 4, () -> x.interval(1, 'd'));
        due("m", 16, () -> x.interval(1, 'm'));
        due("n", 24, () -> x.interval(1, 'n'));
        due("d of the other", 1, () -> x.interval(0, 'd'));
        due("m of the other", -8, () -> x.interval(0, 'm'));
        due("n of the other", 0, () -> x.interval(0, 'n'));
        for (char bad : new char[] {'D', 'M', 'N', 'c', 'e', 'l', 'o', 0, '\uffff'}) {
            due("which " + (int) bad, ARGUMENT, () -> x.interval(0, bad));
            due("which " + (int) bad + " without an interval", INDEX, () -> x.interval(2, bad));
        }
        badIndices("interval", x, index -> x.interval(index, 'd'));
    }

    private static void promise27() {
        SturmRoots x = with(-2, 0, 1);
        x.isolate(0);
        due("bisect(0)", 2, () -> x.bisect(0));
        due("the halves", "1:-8:0=1 1:0:8=1", () -> parts(x));
        due("bisect(1)", 3, () -> x.bisect(1));
        due("the later half", "1:-8:0=1 2:0:8=1 2:8:16=0", () -> parts(x));
        due("an empty one too", 4, () -> x.bisect(2));
        due("the halves of it", "1:-8:0=1 2:0:8=1 3:16:24=0 3:24:32=0", () -> parts(x));
        put(x, 1, -3, 2);
        x.isolate(1);
        due("2 x - 3 from -4 to 4", 2, () -> x.bisect(0));
        due("0 to 4", 3, () -> x.bisect(1));
        due("0 to 2", 4, () -> x.bisect(1));
        due("1 to 2, with a root in the middle", 6, () -> x.bisect(2));
        due("the point interval", "1:-8:0=0 3:0:8=0 4:16:24=0 4:24:24=1 4:24:32=0 2:8:16=0", () -> parts(x));
        long before = x.checksum();
        due("of a point interval", STATE, () -> x.bisect(3));
        due("what it left", before, () -> x.checksum());
        bisectToTheEnd();
        badIndices("bisect", x, index -> x.bisect(index));
    }

    private static void bisectToTheEnd() {
        SturmRoots x = with(-2, 0, 1);
        x.isolate(0);
        for (int i = 1; i <= 12; i++) {
            int count = i + 1;
            due("bisection " + i, count, () -> x.bisect(0));
        }
        due("level 12", 12, () -> x.interval(0, 'd'));
        due("the least half", -16384, () -> x.interval(0, 'm'));
        due("of level 12", STATE, () -> x.bisect(0));
        due("13 intervals", 13, () -> x.intervals());
        due("of level 11", 14, () -> x.bisect(2));
    }

    private static void promise28() {
        SturmRoots x = with(-2, 0, 1);
        x.isolate(0);
        due("of an interval with two roots", STATE, () -> x.refine(0, 1));
        x.bisect(0);
        due("refine(1, 1)", 2, () -> x.refine(1, 1));
        due("the half with the root", "1:-8:0=1 2:0:8=1", () -> parts(x));
        due("refine(1, 6)", 8, () -> x.refine(1, 6));
        due("around the root of 2", "8:360:368=1", () -> part(x, 1));
        due("to level 13", STATE, () -> x.refine(1, 5));
        due("to level 12", 12, () -> x.refine(1, 4));
        due("beyond level 12", STATE, () -> x.refine(1, 1));
        due("around the root of 2, narrowly", "12:5792:5800=1", () -> part(x, 1));
        due("refine(0, 6)", 7, () -> x.refine(0, 6));
        due("around minus the root of 2", "7:-184:-176=1", () -> part(x, 0));
        refineToPoint();
        for (int bad : new int[] {0, 7, -1, LEAST, GREATEST}) {
            due("times " + bad, ARGUMENT, () -> x.refine(1, bad));
            due("times " + bad + " without an interval", INDEX, () -> x.refine(2, bad));
        }
        badIndices("refine", x, index -> x.refine(index, 1));
    }

    private static void refineToPoint() {
        SturmRoots x = with(-3, 2);
        x.isolate(0);
        due("2 x - 3 from -4 to 4", 4, () -> x.refine(0, 6));
        due("stopped at the point interval", "4:24:24=1", () -> parts(x));
        due("of a point interval", STATE, () -> x.refine(0, 1));
        due("of a point interval, times 7", ARGUMENT, () -> x.refine(0, 7));
        put(x, 1, 0, -1, 1);
        x.isolate(1);
        x.bisect(0);
        due("of an empty interval", STATE, () -> x.refine(0, 1));
        due("an end that is a root does not count", 2, () -> x.refine(2, 1));
        due("0, and 1 as a point", "1:-4:0=0 1:0:0=1 2:4:4=1", () -> parts(x));
        put(x, 0, 1, 0, 1);
        x.isolate(0);
        due("of an interval without roots", STATE, () -> x.refine(0, 6));
        due("of an interval without roots, times 0", ARGUMENT, () -> x.refine(0, 0));
    }

    private static void promise29() {
        SturmRoots x = with(-2, 0, 1);
        due("without an isolation", 0, () -> x.removeEmpty());
        x.isolate(0);
        due("without empty ones", 0, () -> x.removeEmpty());
        x.bisect(0);
        x.bisect(0);
        x.bisect(2);
        due("-4 to -2 and 2 to 4", "2:-16:-8=0 2:-8:0=1 2:0:8=1 2:8:16=0", () -> parts(x));
        due("removed", 2, () -> x.removeEmpty());
        due("left", "2:-8:0=1 2:0:8=1", () -> parts(x));
        due("removed again", 0, () -> x.removeEmpty());
        put(x, 0, 1, 0, 1);
        x.isolate(0);
        x.bisect(0);
        x.bisect(0);
        due("all removed", 3, () -> x.removeEmpty());
        due("none left", "", () -> parts(x));
        put(x, 0, 0, 5);
        x.isolate(0);
        x.bisect(0);
        due("on both sides of a point", 2, () -> x.removeEmpty());
        due("the point is left", "1:0:0=1", () -> parts(x));
    }

    private static void promise30() {
        // (x - 1)^2 (x + 2)
        SturmRoots x = with(2, -3, 0, 1);
        x.isolate(0);
        due("of two roots", STATE, () -> x.multiplicity(0));
        x.bisect(0);
        due("of -2", 1, () -> x.multiplicity(0));
        due("of 1", 2, () -> x.multiplicity(1));
        x.refine(1, 6);
        due("of 1 as a point", 2, () -> x.multiplicity(1));
        put(x, 0, 1);
        due("after a change of the slot", 2, () -> x.multiplicity(1));
        x.bisect(0);
        due("of an empty interval", STATE, () -> x.multiplicity(0));
        due("of -2 as a point", 1, () -> x.multiplicity(1));
        put(x, 1, 0, 0, 0, 0, 0, 0, -3);
        x.isolate(1);
        due("of x^6", 6, () -> x.multiplicity(0));
        // x^3 (x - 1)^2 (x + 1): the ends of 0 to 1 are multiple roots
        put(x, 1, 0, 0, 0, 1, -1, -1, 1);
        x.isolate(1);
        x.bisect(0);
        due("of 0", 3, () -> x.multiplicity(1));
        due("of 1, from a multiple root on", 2, () -> x.multiplicity(2));
        due("of -1", 1, () -> x.multiplicity(0));
        // (x^2 - 2)^3
        put(x, 1, -8, 0, 12, 0, -6, 0, 1);
        x.isolate(1);
        x.bisect(0);
        due("of the root of 2", 3, () -> x.multiplicity(1));
        badIndices("multiplicity", x, index -> x.multiplicity(index));
    }

    private static void promise31() {
        due("of zero", true, () -> with().isTrue(0));
        due("of a constant", true, () -> with(-3).isTrue(0));
        due("of (x - 1)^2 (x + 2)", true, () -> with(2, -3, 0, 1).isTrue(0));
        due("of x^6", true, () -> with(0, 0, 0, 0, 0, 0, 2).isTrue(0));
        due("of six roots", true, () -> with(0, -12, 4, 15, -5, -3, 1).isTrue(0));
        SturmRoots x = new SturmRoots();
        putGreat(x, 0, 9999, -9999, 1);
        due("with a root near 9998", true, () -> x.isTrue(0));
        putGreat(x, 0, 5001, 5000, -5002, -9998, -5002, 5000, 5001);
        due("with a square-free part with 10001", true, () -> x.isTrue(0));
        long before = x.checksum();
        x.isTrue(0);
        due("it changes nothing", before, () -> x.checksum());
        for (int bad : NO_SLOTS) {
            due("isTrue(" + bad + ")", INDEX, () -> x.isTrue(bad));
        }
    }

    private static void promise32() {
        SturmRoots x = with(-2, 0, 1);
        put(x, 4, 0, 0, 0, 0, 0, 0, -99);
        int[] values = new int[36];
        values[0] = -2;
        values[2] = 1;
        values[34] = -99;
        due("of slots alone", sum(values), () -> x.checksum());
        x.isolate(0);
        x.bisect(0);
        x.refine(1, 1);
        int[] tail = {2, 1, -8, 0, 1, 2, 0, 8, 1};
        int[] more = java.util.Arrays.copyOf(values, 35 + tail.length);
        System.arraycopy(tail, 0, more, 35, tail.length);
        long want = sum(more);
        due("with intervals", want, () -> x.checksum());
        due("again", want, () -> x.checksum());
    }

    public static void main(String[] args) {
        Runnable[] promises = {
            PromisesTest::promise1, PromisesTest::promise2, PromisesTest::promise3, PromisesTest::promise4,
            PromisesTest::promise5, PromisesTest::promise6, PromisesTest::promise7, PromisesTest::promise8,
            PromisesTest::promise9, PromisesTest::promise10, PromisesTest::promise11, PromisesTest::promise12,
            PromisesTest::promise13, PromisesTest::promise14, PromisesTest::promise15, PromisesTest::promise16,
            PromisesTest::promise17, PromisesTest::promise18, PromisesTest::promise19, PromisesTest::promise20,
            PromisesTest::promise21, PromisesTest::promise22, PromisesTest::promise23, PromisesTest::promise24,
            PromisesTest::promise25, PromisesTest::promise26, PromisesTest::promise27, PromisesTest::promise28,
            PromisesTest::promise29, PromisesTest::promise30, PromisesTest::promise31, PromisesTest::promise32,
        };
        for (int i = 0; i < promises.length; i++) {
            begin("promise " + (i + 1));
            promises[i].run();
        }
        finish();
    }
}
