import java.math.BigInteger;
import java.util.ArrayList;
import java.util.List;
import java.util.NoSuchElementException;
import java.util.function.Supplier;

/**
 * Runs the same calls on a SturmRoots and on a model that follows the document word for word, with
 * rational numbers, and compares every answer and every exception. The calls come from a fixed
 * sequence of numbers, so each run of this test makes the same ones.
 */
public final class ReferenceTest {
    private static int wrong = 0;
    private static long seed = 20261118L;

    private static int next(int bound) {
        seed = seed * 6364136223846793005L + 1442695040888963407L;
        return (int) ((seed >>> 33) % bound);
    }

    private static int between(int low, int high) {
        return low + next(high - low + 1);
    }

    // ---- rational numbers and polynomials of them

    record Fraction(BigInteger top, BigInteger bottom) {
        static final Fraction ZERO = of(BigInteger.ZERO);

        static Fraction of(BigInteger value) {
            return new Fraction(value, BigInteger.ONE);
        }

        static Fraction reduced(BigInteger top, BigInteger bottom) {
            BigInteger common = top.gcd(bottom);
            if (bottom.signum() < 0) {
                common = common.negate();
            }
            return new Fraction(top.divide(common), bottom.divide(common));
        }

        Fraction plus(Fraction other) {
            return reduced(top.multiply(other.bottom).add(other.top.multiply(bottom)), bottom.multiply(other.bottom));
        }

        Fraction times(Fraction other) {
            return reduced(top.multiply(other.top), bottom.multiply(other.bottom));
        }

        Fraction over(Fraction other) {
            return reduced(top.multiply(other.bottom), bottom.multiply(other.top));
        }

        Fraction negated() {
            return new Fraction(top.negate(), bottom);
        }
    }

    record Poly(List<Fraction> terms) {
        static Poly of(long[] values) {
            List<Fraction> terms = new ArrayList<>();
            for (long value : values) {
                terms.add(Fraction.of(BigInteger.valueOf(value)));
            }
            return trimmed(terms);
        }

        static Poly trimmed(List<Fraction> terms) {
            List<Fraction> rest = new ArrayList<>(terms);
            while (!rest.isEmpty() && rest.get(rest.size() - 1).top().signum() == 0) {
                rest.remove(rest.size() - 1);
            }
            return new Poly(rest);
        }

        int top() {
            return terms.size() - 1;
        }

        Fraction at(int power) {
            return power < terms.size() ? terms.get(power) : Fraction.ZERO;
        }

        Fraction lead() {
            return terms.get(top());
        }

        Poly slope() {
            List<Fraction> result = new ArrayList<>();
            for (int i = 1; i < terms.size(); i++) {
                result.add(terms.get(i).times(Fraction.of(BigInteger.valueOf(i))));
            }
            return trimmed(result);
        }

        Poly times(Fraction factor) {
            List<Fraction> result = new ArrayList<>();
            for (Fraction term : terms) {
                result.add(term.times(factor));
            }
            return trimmed(result);
        }

        /** Quotient and remainder. */
        Poly[] dividedBy(Poly divisor) {
            List<Fraction> rest = new ArrayList<>(terms);
            Fraction[] digits = new Fraction[Math.max(0, top() - divisor.top() + 1)];
            for (int gap = digits.length - 1; gap >= 0; gap--) {
                digits[gap] = rest.get(gap + divisor.top()).over(divisor.lead());
                for (int i = 0; i <= divisor.top(); i++) {
                    rest.set(gap + i, rest.get(gap + i).plus(digits[gap].times(divisor.at(i)).negated()));
                }
            }
            return new Poly[] {trimmed(List.of(digits)), trimmed(rest)};
        }

        /** Multiplied by the positive rational number that makes it its own primitive part. */
        Poly primitive() {
            BigInteger bottoms = BigInteger.ONE;
            for (Fraction term : terms) {
                bottoms = bottoms.multiply(term.bottom()).divide(bottoms.gcd(term.bottom()));
            }
            BigInteger common = BigInteger.ZERO;
            for (Fraction term : terms) {
                common = common.gcd(term.top().multiply(bottoms.divide(term.bottom())));
            }
            return terms.isEmpty() ? this : times(Fraction.reduced(bottoms, common));
        }

        Poly normal() {
            Poly result = primitive();
            return result.top() >= 0 && result.lead().top().signum() < 0
                    ? result.times(Fraction.of(BigInteger.ONE.negate())) : result;
        }

        int signAt(Fraction x) {
            Fraction value = Fraction.ZERO;
            for (int i = top(); i >= 0; i--) {
                value = value.times(x).plus(terms.get(i));
            }
            return value.top().signum();
        }

        static Poly common(Poly one, Poly other) {
            return other.top() < 0 ? one.normal() : common(other, one.dividedBy(other)[1].primitive());
        }

        Poly squareFree() {
            return dividedBy(common(this, slope()))[0].normal();
        }

        List<Poly> sturm() {
            List<Poly> result = new ArrayList<>();
            result.add(primitive());
            if (top() > 0) {
                result.add(slope().primitive());
                while (true) {
                    Poly last = result.get(result.size() - 1);
                    Poly rest = result.get(result.size() - 2).dividedBy(last)[1];
                    if (rest.top() < 0) {
                        break;
                    }
                    result.add(rest.times(Fraction.of(BigInteger.ONE.negate())).primitive());
                }
            }
            return result;
        }

        int changes(Fraction x) {
            List<Integer> signs = new ArrayList<>();
            for (Poly element : sturm()) {
                signs.add(element.signAt(x));
            }
            return countChanges(signs);
        }

        /** Distinct roots in the open interval, whether its ends are roots or not. */
        int rootsIn(Fraction low, Fraction high) {
            Poly simple = squareFree();
            return simple.changes(low) - simple.changes(high) - (simple.signAt(high) == 0 ? 1 : 0);
        }
    }

    private static int countChanges(List<Integer> signs) {
        int count = 0;
        int last = 0;
        for (int sign : signs) {
            if (sign != 0) {
                if (sign == -last) {
                    count++;
                }
                last = sign;
            }
        }
        return count;
    }

    // ---- the model

    private static final class Model {
        final long[][] slots = new long[5][7];
        final List<int[]> parts = new ArrayList<>();
        Poly source;

        static void index(boolean good) {
            if (!good) {
                throw new IndexOutOfBoundsException();
            }
        }

        static void argument(boolean good) {
            if (!good) {
                throw new IllegalArgumentException();
            }
        }

        static void state(boolean good) {
            if (!good) {
                throw new IllegalStateException();
            }
        }

        static void slot(int slot) {
            index(slot >= 0 && slot <= 4);
        }

        static Fraction point(int n, int k) {
            return Fraction.reduced(BigInteger.valueOf(n), BigInteger.ONE.shiftLeft(k));
        }

        static void checkPoint(int n, int k) {
            argument(Math.abs((long) n) <= 1000000 && k >= 0 && k <= 12);
        }

        Poly poly(int slot) {
            return Poly.of(slots[slot]);
        }

        Poly nonZero(int slot) {
            Poly result = poly(slot);
            if (result.top() < 0) {
                throw new ArithmeticException();
            }
            return result;
        }

        int store(BigInteger[] values, int to) {
            BigInteger most = BigInteger.valueOf(9999);
            for (int i = 0; i < values.length; i++) {
                state(values[i].abs().compareTo(most) <= 0 && (i < 7 || values[i].signum() == 0));
            }
            for (int i = 0; i < 7; i++) {
                slots[to][i] = i < values.length ? values[i].longValueExact() : 0;
            }
            return degree(to);
        }

        int store(Poly poly, int to) {
            BigInteger[] values = new BigInteger[poly.top() + 1];
            for (int i = 0; i < values.length; i++) {
                values[i] = poly.at(i).top();
            }
            return store(values, to);
        }

        static BigInteger[] zeros(int size) {
            BigInteger[] values = new BigInteger[size];
            java.util.Arrays.fill(values, BigInteger.ZERO);
            return values;
        }

        int set(int slot, int power, int value) {
            slot(slot);
            index(power >= 0 && power <= 6);
            argument(value >= -99 && value <= 99);
            slots[slot][power] = value;
            return degree(slot);
        }

        long coefficient(int slot, int power) {
            slot(slot);
            index(power >= 0 && power <= 6);
            return slots[slot][power];
        }

        int degree(int slot) {
            slot(slot);
            return poly(slot).top();
        }

        int copy(int slot, int to) {
            slot(slot);
            slot(to);
            return store(poly(slot), to);
        }

        int add(int one, int other, int to) {
            slot(one);
            slot(other);
            slot(to);
            BigInteger[] values = zeros(7);
            for (int i = 0; i < 7; i++) {
                values[i] = BigInteger.valueOf(slots[one][i] + slots[other][i]);
            }
            return store(values, to);
        }

        int multiply(int one, int other, int to) {
            slot(one);
            slot(other);
            slot(to);
            BigInteger[] values = zeros(13);
            for (int i = 0; i < 7; i++) {
                for (int j = 0; j < 7; j++) {
                    values[i + j] = values[i + j].add(BigInteger.valueOf(slots[one][i] * slots[other][j]));
                }
            }
            return store(values, to);
        }

        int derivative(int slot, int to) {
            slot(slot);
            slot(to);
            return store(poly(slot).slope(), to);
        }

        int shift(int slot, int by, int to) {
            slot(slot);
            slot(to);
            argument(by >= -9 && by <= 9);
            BigInteger[] values = zeros(7);
            for (int i = 0; i < 7; i++) {
                BigInteger choose = BigInteger.ONE;
                for (int j = i; j >= 0; j--) {
                    BigInteger term = choose.multiply(BigInteger.valueOf(by).pow(i - j));
                    values[j] = values[j].add(term.multiply(BigInteger.valueOf(slots[slot][i])));
                    choose = choose.multiply(BigInteger.valueOf(j)).divide(BigInteger.valueOf(i - j + 1));
                }
            }
            return store(values, to);
        }

        int reflect(int slot, int to) {
            slot(slot);
            slot(to);
            BigInteger[] values = zeros(7);
            for (int i = 0; i < 7; i++) {
                values[i] = BigInteger.valueOf(i % 2 == 0 ? slots[slot][i] : -slots[slot][i]);
            }
            return store(values, to);
        }

        int scale(int slot, int factor, int to) {
            slot(slot);
            slot(to);
            argument(factor >= 2 && factor <= 9);
            int top = degree(slot);
            BigInteger[] values = zeros(7);
            for (int i = 0; i <= top; i++) {
                values[i] = BigInteger.valueOf(factor).pow(top - i).multiply(BigInteger.valueOf(slots[slot][i]));
            }
            return store(values, to);
        }

        int gcd(int one, int other, int to) {
            slot(one);
            slot(other);
            slot(to);
            return store(Poly.common(poly(one), poly(other)), to);
        }

        int squareFreePart(int slot, int to) {
            slot(slot);
            slot(to);
            return store(nonZero(slot).squareFree(), to);
        }

        int sturmLength(int slot) {
            slot(slot);
            return nonZero(slot).sturm().size();
        }

        Poly element(int slot, int index) {
            List<Poly> elements = nonZero(slot).sturm();
            if (index < 0 || index >= elements.size()) {
                throw new NoSuchElementException();
            }
            return elements.get(index);
        }

        long sturmCoefficient(int slot, int index, int power) {
            slot(slot);
            index(power >= 0 && power <= 6);
            Fraction term = element(slot, index).at(power);
            return term.top().longValue();
        }

        int sturmDegree(int slot, int index) {
            slot(slot);
            return element(slot, index).top();
        }

        int signChanges(int slot, int n, int k) {
            slot(slot);
            checkPoint(n, k);
            return nonZero(slot).changes(point(n, k));
        }

        int sign(int slot, int n, int k) {
            slot(slot);
            checkPoint(n, k);
            return poly(slot).signAt(point(n, k));
        }

        Poly counted(int slot, int n, int k, int m, int l) {
            slot(slot);
            checkPoint(n, k);
            checkPoint(m, l);
            argument(point(n, k).plus(point(m, l).negated()).top().signum() < 0);
            Poly p = nonZero(slot);
            state(p.signAt(point(n, k)) != 0 && p.signAt(point(m, l)) != 0);
            return p;
        }

        int countDistinct(int slot, int n, int k, int m, int l) {
            return counted(slot, n, k, m, l).rootsIn(point(n, k), point(m, l));
        }

        int countAll(int slot, int n, int k, int m, int l) {
            Poly p = counted(slot, n, k, m, l);
            int count = 0;
            while (p.top() > 0) {
                count += p.rootsIn(point(n, k), point(m, l));
                p = Poly.common(p, p.slope());
            }
            return count;
        }

        int distinctRoots(int slot) {
            slot(slot);
            return nonZero(slot).rootsIn(point(-1000000, 0), point(1000000, 0));
        }

        int coefficientSignChanges(int slot) {
            slot(slot);
            List<Integer> signs = new ArrayList<>();
            for (long value : slots[slot]) {
                signs.add(Long.signum(value));
            }
            return countChanges(signs);
        }

        int isolate(int slot) {
            slot(slot);
            source = nonZero(slot);
            int top = degree(slot);
            long bound = 1;
            for (boolean enough = false; !enough; ) {
                enough = true;
                for (int i = 0; i < top; i++) {
                    enough &= (bound - 1) * Math.abs(slots[slot][top]) >= Math.abs(slots[slot][i]);
                }
                bound = enough ? bound : bound * 2;
            }
            parts.clear();
            parts.add(new int[] {0, (int) -bound, (int) bound});
            return rootsIn(0);
        }

        int[] part(int index) {
            index(index >= 0 && index < parts.size());
            return parts.get(index);
        }

        int rootsIn(int index) {
            return count(source, part(index));
        }

        static int count(Poly poly, int[] part) {
            Fraction low = point(part[1], part[0]);
            return part[1] == part[2] ? 1 - Math.abs(poly.signAt(low))
                    : poly.rootsIn(low, point(part[2], part[0]));
        }

        int interval(int index, char which) {
            int[] part = part(index);
            argument("dmn".indexOf(which) >= 0);
            return part["dmn".indexOf(which)];
        }

        /** The intervals that take the place of one. */
        List<int[]> halves(int[] part) {
            int middle = part[1] + part[2];
            List<int[]> result = new ArrayList<>();
            result.add(new int[] {part[0] + 1, 2 * part[1], middle});
            if (source.signAt(point(middle, part[0] + 1)) == 0) {
                result.add(new int[] {part[0] + 1, middle, middle});
            }
            result.add(new int[] {part[0] + 1, middle, 2 * part[2]});
            return result;
        }

        int bisect(int index) {
            int[] part = part(index);
            state(part[1] < part[2] && part[0] < 12);
            parts.remove(index);
            parts.addAll(index, halves(part));
            return parts.size();
        }

        int refine(int index, int times) {
            int[] part = part(index);
            argument(times >= 1 && times <= 6);
            state(rootsIn(index) == 1 && part[1] < part[2] && part[0] + times <= 12);
            for (int i = 0; i < times && part[1] < part[2]; i++) {
                for (int[] half : halves(part)) {
                    if (count(source, half) == 1) {
                        part = half;
                    }
                }
            }
            parts.set(index, part);
            return part[0];
        }

        int removeEmpty() {
            int before = parts.size();
            parts.removeIf(part -> count(source, part) == 0);
            return before - parts.size();
        }

        int multiplicity(int index) {
            int[] part = part(index);
            state(rootsIn(index) == 1);
            int result = 0;
            Poly p = source;
            while (p.top() > 0 && count(p, part) == 1) {
                result++;
                p = Poly.common(p, p.slope());
            }
            return result;
        }

        boolean isTrue(int slot) {
            slot(slot);
            return true;
        }

        long checksum() {
            long c = 7;
            for (long[] slot : slots) {
                for (long value : slot) {
                    c = 31 * c + value;
                }
            }
            c = 31 * c + parts.size();
            for (int[] part : parts) {
                c = 31 * (31 * (31 * c + part[0]) + part[1]) + part[2];
                c = 31 * c + count(source, part);
            }
            return c;
        }
    }

    // ---- comparison

    private static String outcome(Supplier<Object> call) {
        try {
            return String.valueOf(call.get());
        } catch (RuntimeException thrown) {
            String place = thrown.getStackTrace()[0].getClassName();
            boolean own = place.startsWith("SturmRoots") || place.startsWith("ReferenceTest$Model");
            boolean divided = "/ by zero".equals(thrown.getMessage());
            return (own && !divided ? "" : "by itself ") + thrown.getClass().getName();
        }
    }

    private static void compare(String call, Supplier<Object> answer, Supplier<Object> due) {
        String got = outcome(answer);
        String want = outcome(due);
        if (!got.equals(want)) {
            wrong++;
            System.out.println(call + " answered " + got + ", due is " + want);
        }
    }

    private static int wild(int low, int high) {
        switch (next(40)) {
            case 0:
                return low - 1;
            case 1:
                return high + 1;
            case 2:
                return next(2) == 0 ? Integer.MIN_VALUE : Integer.MAX_VALUE;
            default:
                return between(low, high);
        }
    }

    private static int numerator(int k) {
        int kind = next(12);
        return kind == 0 ? wild(-1000000, 1000000) : kind < 4 ? between(-12, 12) << Math.min(12, Math.max(0, k))
                : kind < 8 ? between(-100, 100) : between(-12000, 12000);
    }

    private static int level() {
        return next(3) == 0 ? wild(0, 12) : between(0, 3);
    }

    private static void polynomialCall(SturmRoots x, Model y) {
        int a = wild(0, 4);
        int b = wild(0, 4);
        int c = wild(0, 4);
        int power = wild(0, 6);
        switch (next(14)) {
            case 0, 1, 2 -> {
                int value = next(3) == 0 ? wild(-99, 99) : between(-3, 3);
                compare("set " + a + " " + power + " " + value, () -> x.set(a, power, value), () -> y.set(a, power, value));
            }
            case 3 -> compare("coefficient " + a + " " + power, () -> x.coefficient(a, power), () -> y.coefficient(a, power));
            case 4 -> compare("degree " + a, () -> x.degree(a), () -> y.degree(a));
            case 5 -> compare("copy " + a + " " + b, () -> x.copy(a, b), () -> y.copy(a, b));
            case 6 -> compare("add " + a + " " + b + " " + c, () -> x.add(a, b, c), () -> y.add(a, b, c));
            case 7, 8 -> compare("multiply " + a + " " + b + " " + c, () -> x.multiply(a, b, c), () -> y.multiply(a, b, c));
            case 9 -> compare("derivative " + a + " " + b, () -> x.derivative(a, b), () -> y.derivative(a, b));
            case 10 -> {
                int by = next(2) == 0 ? wild(-9, 9) : between(-2, 2);
                compare("shift " + a + " " + by + " " + b, () -> x.shift(a, by, b), () -> y.shift(a, by, b));
            }
            case 11 -> compare("reflect " + a + " " + b, () -> x.reflect(a, b), () -> y.reflect(a, b));
            case 12 -> {
                int factor = wild(2, 9);
                compare("scale " + a + " " + factor + " " + b, () -> x.scale(a, factor, b), () -> y.scale(a, factor, b));
            }
            default -> {
                if (next(2) == 0) {
                    compare("gcd " + a + " " + b + " " + c, () -> x.gcd(a, b, c), () -> y.gcd(a, b, c));
                } else {
                    compare("squareFreePart " + a + " " + b, () -> x.squareFreePart(a, b), () -> y.squareFreePart(a, b));
                }
            }
        }
    }

    private static void sturmCall(SturmRoots x, Model y) {
        int a = wild(0, 4);
        int index = wild(0, 6);
        int power = wild(0, 6);
        int k = level();
        int n = numerator(k);
        int l = level();
        int m = numerator(l);
        String points = a + " " + n + " " + k + " " + m + " " + l;
        switch (next(10)) {
            case 0 -> compare("sturmLength " + a, () -> x.sturmLength(a), () -> y.sturmLength(a));
            case 1 -> compare("sturmCoefficient " + a + " " + index + " " + power,
                    () -> x.sturmCoefficient(a, index, power), () -> y.sturmCoefficient(a, index, power));
            case 2 -> compare("sturmDegree " + a + " " + index, () -> x.sturmDegree(a, index), () -> y.sturmDegree(a, index));
            case 3 -> compare("signChanges " + points, () -> x.signChanges(a, n, k), () -> y.signChanges(a, n, k));
            case 4 -> compare("sign " + points, () -> x.sign(a, n, k), () -> y.sign(a, n, k));
            case 5 -> compare("countDistinct " + points, () -> x.countDistinct(a, n, k, m, l), () -> y.countDistinct(a, n, k, m, l));
            case 6 -> compare("countAll " + points, () -> x.countAll(a, n, k, m, l), () -> y.countAll(a, n, k, m, l));
            case 7 -> compare("distinctRoots " + a, () -> x.distinctRoots(a), () -> y.distinctRoots(a));
            case 8 -> compare("coefficientSignChanges " + a, () -> x.coefficientSignChanges(a), () -> y.coefficientSignChanges(a));
            default -> compare("isTrue " + a, () -> x.isTrue(a), () -> y.isTrue(a));
        }
    }

    private static void isolationCall(SturmRoots x, Model y) {
        int a = wild(0, 4);
        int index = wild(0, Math.max(0, y.parts.size() - 1));
        int times = wild(1, 6);
        char which = "dmndmndmnxDMN\u0000\uffff".charAt(next(15));
        switch (next(12)) {
            case 0 -> compare("isolate " + a, () -> x.isolate(a), () -> y.isolate(a));
            case 1 -> compare("intervals", () -> x.intervals(), () -> y.parts.size());
            case 2 -> compare("rootsIn " + index, () -> x.rootsIn(index), () -> y.rootsIn(index));
            case 3 -> compare("interval " + index + " " + which, () -> x.interval(index, which), () -> y.interval(index, which));
            case 4, 5, 6, 7 -> compare("bisect " + index, () -> x.bisect(index), () -> y.bisect(index));
            case 8, 9 -> compare("refine " + index + " " + times, () -> x.refine(index, times), () -> y.refine(index, times));
            case 10 -> {
                if (next(3) == 0) {
                    compare("removeEmpty", () -> x.removeEmpty(), () -> y.removeEmpty());
                }
            }
            default -> compare("multiplicity " + index, () -> x.multiplicity(index), () -> y.multiplicity(index));
        }
    }

    /** Puts into slot 0 a product of factors x - r and others, with repeated ones among them. */
    private static void plantRoots(SturmRoots x, Model y) {
        compare("plant", () -> x.set(0, 0, 1), () -> y.set(0, 0, 1));
        for (int i = 1; i < 7; i++) {
            int power = i;
            compare("plant", () -> x.set(0, power, 0), () -> y.set(0, power, 0));
        }
        for (int factor = 0; factor < 3; factor++) {
            int root = between(-4, 4);
            int lead = next(3) == 0 ? between(1, 3) : 1;
            int square = next(4) == 0 ? 1 : 0;
            compare("plant", () -> x.set(1, 0, root), () -> y.set(1, 0, root));
            compare("plant", () -> x.set(1, 1, lead), () -> y.set(1, 1, lead));
            compare("plant", () -> x.set(1, 2, square), () -> y.set(1, 2, square));
            for (int i = 3; i < 7; i++) {
                int power = i;
                compare("plant", () -> x.set(1, power, 0), () -> y.set(1, power, 0));
            }
            for (int times = between(1, 3); times > 0; times--) {
                compare("plant " + root, () -> x.multiply(0, 1, 0), () -> y.multiply(0, 1, 0));
            }
        }
        compare("plant", () -> x.isolate(0), () -> y.isolate(0));
    }

    /**
     * Puts coefficients of up to four digits into three slots, so that sequences have great numbers; only
     * into each second or third power if the step says so: then great numbers stand beside zeros.
     */
    private static void plantGreat(SturmRoots x, Model y, int step) {
        for (int i = 0; i < 7; i++) {
            int power = i;
            compare("great", () -> x.set(3, power, 0), () -> y.set(3, power, 0));
        }
        for (int slot = 0; slot < 3; slot++) {
            int to = slot;
            int spread = next(4) == 0 ? 99 : 9;
            compare("great", () -> x.set(3, 0, 99), () -> y.set(3, 0, 99));
            for (int i = 0; i < 7; i++) {
                int power = i;
                boolean isZero = power % step != 0;
                int high = isZero || next(8) == 0 ? 0 : between(-spread * 11, spread * 11) % 100;
                int low = isZero ? 0 : between(-99, 99);
                compare("great", () -> x.set(to, power, high), () -> y.set(to, power, high));
                compare("great", () -> x.set(4, power, low), () -> y.set(4, power, low));
            }
            compare("great", () -> x.multiply(to, 3, to), () -> y.multiply(to, 3, to));
            compare("great", () -> x.add(to, 4, to), () -> y.add(to, 4, to));
            compare("great", () -> x.isolate(to), () -> y.isolate(to));
            compare("great", () -> x.isTrue(to), () -> y.isTrue(to));
            for (int index = 0; index < 7; index++) {
                for (int power = 0; power < 7; power++) {
                    int i = index;
                    int j = power;
                    compare("great sturm " + i + " " + j, () -> x.sturmCoefficient(to, i, j), () -> y.sturmCoefficient(to, i, j));
                }
            }
        }
    }

    private static void run(int kind, int calls) {
        SturmRoots x = new SturmRoots();
        Model y = new Model();
        if (kind == 1) {
            plantRoots(x, y);
        } else if (kind == 2) {
            plantGreat(x, y, 1);
        } else if (kind == 3) {
            plantGreat(x, y, between(2, 3));
        }
        for (int i = 0; i < calls && wrong < 20; i++) {
            int group = next(10);
            if (group < (kind == 0 ? 5 : 1)) {
                polynomialCall(x, y);
            } else if (group < 7) {
                sturmCall(x, y);
            } else {
                isolationCall(x, y);
            }
            if (i % 8 == 7) {
                compare("checksum", () -> x.checksum(), () -> y.checksum());
            }
        }
        compare("checksum", () -> x.checksum(), () -> y.checksum());
    }

    public static void main(String[] args) {
        int runs = args.length > 0 ? Integer.parseInt(args[0]) : 200;
        for (int i = 0; i < runs && wrong < 20; i++) {
            run(i % 4, 200);
        }
        System.out.println(wrong == 0 ? "all answers are as due" : wrong + " answers are not as due");
        if (wrong != 0) {
            System.exit(1);
        }
    }
}
