import java.util.ArrayList;
import java.util.NoSuchElementException;

/**
 * A workbench for polynomials with integer coefficients: it counts real roots by Sturm sequences
 * and isolates them in intervals that are bisected.
 *
 * <p>Slots hold plain ints. Whatever is computed from them happens in rows of {@link Big} that are
 * made once, in the constructor, and used again by every call.
 */
public final class SturmRoots {
    private static final int SLOTS = 5;
    private static final int POWERS = 7;
    private static final int GREATEST_VALUE = 99;
    private static final int GREATEST_COEFFICIENT = 9999;
    private static final int GREATEST_BY = 9;
    private static final int LEAST_FACTOR = 2;
    private static final int GREATEST_FACTOR = 9;
    private static final int GREATEST_NUMERATOR = 1000000;
    private static final int GREATEST_LEVEL = 12;
    private static final int GREATEST_TIMES = 6;

    /** Beyond every root: in a slot, a root's absolute value is less than 1 + 9999. */
    private static final int FAR = 32768;

    private final int[][] slots = new int[SLOTS][POWERS];
    private final long[] row = new long[POWERS];
    private final Algebra algebra = new Algebra();
    private final Polynomial subject = new Polynomial();
    private final Polynomial partner = new Polynomial();
    private final Polynomial outcome = new Polynomial();
    private final Sequence sequence = new Sequence();
    private final Isolation isolation = new Isolation(algebra);

    /** Creates a workbench with the zero polynomial in each slot, without an isolation. */
    public SturmRoots() {
    }

    // ---- polynomials

    public int set(int slot, int power, int value) throws IndexOutOfBoundsException, IllegalArgumentException {
        requireSlot(slot);
        requirePower(power);
        if (value < -GREATEST_VALUE || value > GREATEST_VALUE) {
            throw new IllegalArgumentException("value is out of range");
        }
        slots[slot][power] = value;
        return degreeOf(slots[slot]);
    }

    public int coefficient(int slot, int power) throws IndexOutOfBoundsException {
        requireSlot(slot);
        requirePower(power);
        return slots[slot][power];
    }

    public int degree(int slot) throws IndexOutOfBoundsException {
        requireSlot(slot);
        return degreeOf(slots[slot]);
    }

    public int copy(int slot, int to) throws IndexOutOfBoundsException {
        requireSlot(slot);
        requireSlot(to);
        readRow(slot);
        return storeRow(to);
    }

    public int add(int one, int other, int to) throws IndexOutOfBoundsException, IllegalStateException {
        requireSlot(one);
        requireSlot(other);
        requireSlot(to);
        for (int i = 0; i < POWERS; i++) {
            row[i] = (long) slots[one][i] + slots[other][i];
        }
        requireStorable();
        return storeRow(to);
    }

    public int multiply(int one, int other, int to) throws IndexOutOfBoundsException, IllegalStateException {
        requireSlot(one);
        requireSlot(other);
        requireSlot(to);
        int oneDegree = degreeOf(slots[one]);
        int otherDegree = degreeOf(slots[other]);
        if (oneDegree >= 0 && otherDegree >= 0 && oneDegree + otherDegree >= POWERS) {
            throw new IllegalStateException("the degree of the product is too great");
        }
        clearRow();
        for (int i = 0; i <= oneDegree; i++) {
            for (int j = 0; j <= otherDegree && i + j < POWERS; j++) {
                row[i + j] += (long) slots[one][i] * slots[other][j];
            }
        }
        requireStorable();
        return storeRow(to);
    }

    public int derivative(int slot, int to) throws IndexOutOfBoundsException, IllegalStateException {
        requireSlot(slot);
        requireSlot(to);
        clearRow();
        for (int i = 1; i < POWERS; i++) {
            row[i - 1] = (long) i * slots[slot][i];
        }
        requireStorable();
        return storeRow(to);
    }

    public int shift(int slot, int by, int to)
            throws IndexOutOfBoundsException, IllegalArgumentException, IllegalStateException {
        requireSlot(slot);
        requireSlot(to);
        if (by < -GREATEST_BY || by > GREATEST_BY) {
            throw new IllegalArgumentException("by is out of range");
        }
        readRow(slot);
        // Horner's scheme, run again on what it leaves, gives the coefficients of p(x + by).
        for (int first = 0; first < POWERS - 1; first++) {
            for (int i = POWERS - 2; i >= first; i--) {
                row[i] += by * row[i + 1];
            }
        }
        requireStorable();
        return storeRow(to);
    }

    public int reflect(int slot, int to) throws IndexOutOfBoundsException {
        requireSlot(slot);
        requireSlot(to);
        readRow(slot);
        for (int i = 1; i < POWERS; i += 2) {
            row[i] = -row[i];
        }
        return storeRow(to);
    }

    public int scale(int slot, int factor, int to)
            throws IndexOutOfBoundsException, IllegalArgumentException, IllegalStateException {
        requireSlot(slot);
        requireSlot(to);
        if (factor < LEAST_FACTOR || factor > GREATEST_FACTOR) {
            throw new IllegalArgumentException("factor is out of range");
        }
        readRow(slot);
        long multiplier = 1;
        for (int i = degreeOf(slots[slot]); i >= 0; i--) {
            row[i] *= multiplier;
            multiplier *= factor;
        }
        requireStorable();
        return storeRow(to);
    }

    public int gcd(int one, int other, int to) throws IndexOutOfBoundsException, IllegalStateException {
        requireSlot(one);
        requireSlot(other);
        requireSlot(to);
        subject.becomeRow(slots[one]);
        partner.becomeRow(slots[other]);
        algebra.writeCommonDivisor(subject, partner, outcome);
        outcome.writeRow(row);
        requireStorable();
        return storeRow(to);
    }

    public int squareFreePart(int slot, int to)
            throws IndexOutOfBoundsException, ArithmeticException, IllegalStateException {
        requireSlot(slot);
        requireSlot(to);
        requireNotZero(slot);
        subject.becomeRow(slots[slot]);
        algebra.writeSquareFree(subject, outcome);
        outcome.writeRow(row);
        requireStorable();
        return storeRow(to);
    }

    // ---- Sturm sequences

    public int sturmLength(int slot) throws IndexOutOfBoundsException, ArithmeticException {
        requireSlot(slot);
        requireNotZero(slot);
        buildSequence(slot);
        return sequence.length;
    }

    public long sturmCoefficient(int slot, int index, int power)
            throws IndexOutOfBoundsException, ArithmeticException, NoSuchElementException {
        requireSlot(slot);
        requirePower(power);
        requireNotZero(slot);
        buildSequence(slot);
        requireElement(index);
        return sequence.elements[index].coefficients[power].lowestBits();
    }

    public int sturmDegree(int slot, int index)
            throws IndexOutOfBoundsException, ArithmeticException, NoSuchElementException {
        requireSlot(slot);
        requireNotZero(slot);
        buildSequence(slot);
        requireElement(index);
        return sequence.elements[index].degree;
    }

    public int signChanges(int slot, int n, int k)
            throws IndexOutOfBoundsException, IllegalArgumentException, ArithmeticException {
        requireSlot(slot);
        requirePoint(n, k);
        requireNotZero(slot);
        buildSequence(slot);
        return algebra.changesAt(sequence, n, k);
    }

    // ---- signs and roots

    public int sign(int slot, int n, int k) throws IndexOutOfBoundsException, IllegalArgumentException {
        requireSlot(slot);
        requirePoint(n, k);
        subject.becomeRow(slots[slot]);
        return algebra.signAt(subject, n, k);
    }

    public int countDistinct(int slot, int n, int k, int m, int l)
            throws IndexOutOfBoundsException, IllegalArgumentException, ArithmeticException, IllegalStateException {
        requireSlot(slot);
        requireOrder(n, k, m, l);
        requireNotZero(slot);
        subject.becomeRow(slots[slot]);
        requireNoRoot(n, k);
        requireNoRoot(m, l);
        algebra.writeSturm(subject, sequence);
        return algebra.changesAt(sequence, n, k) - algebra.changesAt(sequence, m, l);
    }

    public int countAll(int slot, int n, int k, int m, int l)
            throws IndexOutOfBoundsException, IllegalArgumentException, ArithmeticException, IllegalStateException {
        requireSlot(slot);
        requireOrder(n, k, m, l);
        requireNotZero(slot);
        subject.becomeRow(slots[slot]);
        requireNoRoot(n, k);
        requireNoRoot(m, l);
        // A root of multiplicity j is a root of p and of the j - 1 repeated parts that follow.
        int count = 0;
        for (int step = 0; step < POWERS && subject.degree > 0; step++) {
            algebra.writeSturm(subject, sequence);
            count += algebra.changesAt(sequence, n, k) - algebra.changesAt(sequence, m, l);
            algebra.writeRepeated(subject, outcome);
            subject.become(outcome);
        }
        return count;
    }

    public int distinctRoots(int slot) throws IndexOutOfBoundsException, ArithmeticException {
        requireSlot(slot);
        requireNotZero(slot);
        buildSequence(slot);
        return algebra.changesAt(sequence, -FAR, 0) - algebra.changesAt(sequence, FAR, 0);
    }

    public int coefficientSignChanges(int slot) throws IndexOutOfBoundsException {
        requireSlot(slot);
        subject.becomeRow(slots[slot]);
        return subject.coefficientChanges();
    }

    // ---- isolation

    public int isolate(int slot) throws IndexOutOfBoundsException, ArithmeticException {
        requireSlot(slot);
        requireNotZero(slot);
        subject.becomeRow(slots[slot]);
        algebra.writeSquareFree(subject, outcome);
        return isolation.begin(subject, outcome, rootBound(slots[slot]));
    }

    public int intervals() {
        return isolation.parts.size();
    }

    public int rootsIn(int index) throws IndexOutOfBoundsException {
        requireInterval(index);
        return isolation.parts.get(index).roots;
    }

    public int interval(int index, char which) throws IndexOutOfBoundsException, IllegalArgumentException {
        requireInterval(index);
        Interval part = isolation.parts.get(index);
        if (which != 'd' && which != 'm' && which != 'n') {
            throw new IllegalArgumentException("which is not d, m or n");
        }
        return which == 'd' ? part.level : which == 'm' ? part.low : part.high;
    }

    public int bisect(int index) throws IndexOutOfBoundsException, IllegalStateException {
        requireInterval(index);
        Interval part = isolation.parts.get(index);
        if (part.isPoint() || part.level >= GREATEST_LEVEL) {
            throw new IllegalStateException("the interval cannot be bisected");
        }
        isolation.split(index);
        return isolation.parts.size();
    }

    public int refine(int index, int times)
            throws IndexOutOfBoundsException, IllegalArgumentException, IllegalStateException {
        requireInterval(index);
        if (times < 1 || times > GREATEST_TIMES) {
            throw new IllegalArgumentException("times is out of range");
        }
        Interval part = isolation.parts.get(index);
        if (part.roots != 1 || part.isPoint() || part.level + times > GREATEST_LEVEL) {
            throw new IllegalStateException("the interval cannot be refined");
        }
        for (int i = 0; i < times && !part.isPoint(); i++) {
            isolation.narrow(part);
        }
        return part.level;
    }

    public int removeEmpty() {
        return isolation.dropEmpty();
    }

    public int multiplicity(int index) throws IndexOutOfBoundsException, IllegalStateException {
        requireInterval(index);
        Interval part = isolation.parts.get(index);
        if (part.roots != 1) {
            throw new IllegalStateException("the interval does not contain exactly one root");
        }
        // The root is in p and in each repeated part that follows, until its multiplicity is used up.
        subject.become(isolation.source);
        int count = 0;
        for (int step = 0; step < POWERS && subject.degree > 0; step++) {
            algebra.writeRepeated(subject, outcome);
            algebra.writeQuotient(subject, outcome, partner);
            algebra.writeSturm(partner, sequence);
            if (algebra.rootsInside(sequence, part.level, part.low, part.high) == 0) {
                break;
            }
            count++;
            subject.become(outcome);
        }
        return count;
    }

    // ---- all

    public boolean isTrue(int slot) throws IndexOutOfBoundsException {
        requireSlot(slot);
        if (degreeOf(slots[slot]) < 0) {
            return true;
        }
        buildSequence(slot);
        int distinct = algebra.changesAt(sequence, -FAR, 0) - algebra.changesAt(sequence, FAR, 0);
        algebra.writeSquareFree(subject, outcome);
        algebra.writeSturm(outcome, sequence);
        int changesFar = algebra.changesAt(sequence, FAR, 0);
        int counted = algebra.changesAt(sequence, -FAR, 0) - changesFar;
        int positive = algebra.changesAt(sequence, 0, 0) - changesFar;
        int spare = outcome.coefficientChanges() - positive;
        return counted == distinct && counted <= outcome.degree && spare >= 0 && spare % 2 == 0;
    }

    public long checksum() {
        long sum = 7;
        for (int slot = 0; slot < SLOTS; slot++) {
            for (int i = 0; i < POWERS; i++) {
                sum = 31 * sum + slots[slot][i];
            }
        }
        int size = isolation.parts.size();
        sum = 31 * sum + size;
        for (int i = 0; i < size; i++) {
            Interval part = isolation.parts.get(i);
            sum = 31 * sum + part.level;
            sum = 31 * sum + part.low;
            sum = 31 * sum + part.high;
            sum = 31 * sum + part.roots;
        }
        return sum;
    }

    // ---- what the calls require

    private static void requireSlot(int slot) {
        if (slot < 0 || slot >= SLOTS) {
            throw new IndexOutOfBoundsException("slot is out of range");
        }
    }

    private static void requirePower(int power) {
        if (power < 0 || power >= POWERS) {
            throw new IndexOutOfBoundsException("power is out of range");
        }
    }

    private static void requirePoint(int n, int k) {
        if (n < -GREATEST_NUMERATOR || n > GREATEST_NUMERATOR || k < 0 || k > GREATEST_LEVEL) {
            throw new IllegalArgumentException("a point is out of range");
        }
    }

    private static void requireOrder(int n, int k, int m, int l) {
        requirePoint(n, k);
        requirePoint(m, l);
        if (((long) n << l) >= ((long) m << k)) {
            throw new IllegalArgumentException("the first point is not less than the second one");
        }
    }

    private void requireNotZero(int slot) {
        if (degreeOf(slots[slot]) < 0) {
            throw new ArithmeticException("the polynomial is zero");
        }
    }

    private void requireElement(int index) {
        if (index < 0 || index >= sequence.length) {
            throw new NoSuchElementException("the sequence has no such element");
        }
    }

    private void requireNoRoot(int n, int k) {
        if (algebra.signAt(subject, n, k) == 0) {
            throw new IllegalStateException("a point is a root");
        }
    }

    private void requireInterval(int index) {
        if (index < 0 || index >= isolation.parts.size()) {
            throw new IndexOutOfBoundsException("there is no such interval");
        }
    }

    private void requireStorable() {
        for (int i = 0; i < POWERS; i++) {
            if (row[i] < -GREATEST_COEFFICIENT || row[i] > GREATEST_COEFFICIENT) {
                throw new IllegalStateException("a coefficient of the result is too great");
            }
        }
    }

    // ---- slots and the row in which results are made

    private static int degreeOf(int[] slot) {
        for (int i = POWERS - 1; i >= 0; i--) {
            if (slot[i] != 0) {
                return i;
            }
        }
        return -1;
    }

    private void clearRow() {
        for (int i = 0; i < POWERS; i++) {
            row[i] = 0;
        }
    }

    private void readRow(int slot) {
        for (int i = 0; i < POWERS; i++) {
            row[i] = slots[slot][i];
        }
    }

    private int storeRow(int to) {
        for (int i = 0; i < POWERS; i++) {
            slots[to][i] = (int) row[i];
        }
        return degreeOf(slots[to]);
    }

    private void buildSequence(int slot) {
        subject.becomeRow(slots[slot]);
        algebra.writeSturm(subject, sequence);
    }

    /** The smallest power of 2, b, with (b - 1) * |leading coefficient| >= every other |coefficient|. */
    private static int rootBound(int[] slot) {
        int top = degreeOf(slot);
        int greatest = 0;
        for (int i = 0; i < top; i++) {
            greatest = Math.max(greatest, Math.abs(slot[i]));
        }
        int lead = top < 0 ? 1 : Math.abs(slot[top]);
        int bound = 1;
        while (bound < FAR && (long) (bound - 1) * lead < greatest) {
            bound *= 2;
        }
        return bound;
    }

    /**
     * An integer that is written over again and again: sign and magnitude, in limbs of 30 bits, so
     * that a product of two limbs and two carries fit in a long.
     */
    private static final class Big {
        static final int BITS = 30;
        static final int BASE = 1 << BITS;
        static final int MASK = BASE - 1;

        /**
         * 600 bits. The longest numbers arise while the second last element of a sequence is divided
         * by the last one: by Hadamard's bound on subresultants fewer than 450 bits, and the scaling
         * of a long division adds at most 30.
         */
        static final int LIMBS = 20;

        /** The limbs from length on are always 0. */
        final int[] limbs = new int[LIMBS];
        int length;
        boolean negative;

        boolean isZero() {
            return length == 0;
        }

        boolean isOne() {
            return length == 1 && limbs[0] == 1 && !negative;
        }

        int signum() {
            return length == 0 ? 0 : negative ? -1 : 1;
        }

        /** The lowest 64 bits in two's complement. */
        long lowestBits() {
            long bits = limbs[0] + ((long) limbs[1] << BITS) + ((long) limbs[2] << 2 * BITS);
            return negative ? -bits : bits;
        }

        void clear() {
            for (int i = 0; i < length; i++) {
                limbs[i] = 0;
            }
            length = 0;
            negative = false;
        }

        /** Becomes a value whose magnitude is below 2 to the power 60. */
        void becomeValue(long value) {
            clear();
            long magnitude = Math.abs(value);
            limbs[0] = (int) (magnitude & MASK);
            limbs[1] = (int) (magnitude >> BITS & MASK);
            settle(2);
            if (length > 0) {
                negative = value < 0;
            }
        }

        void become(Big other) {
            System.arraycopy(other.limbs, 0, limbs, 0, LIMBS);
            length = other.length;
            negative = other.negative;
        }

        void becomeMagnitude(Big other) {
            become(other);
            negative = false;
        }

        /** Becomes the product of two others. */
        void becomeProduct(Big one, Big other) {
            clear();
            for (int i = 0; i < one.length; i++) {
                addMultiple(other, i, one.limbs[i]);
            }
            settle(Math.min(LIMBS, one.length + other.length));
            if (length > 0) {
                negative = one.negative != other.negative;
            }
        }

        void flipSign() {
            if (length > 0) {
                negative = !negative;
            }
        }

        /** Adds another number; a difference that goes below 0 is turned into its magnitude. */
        void plus(Big other) {
            int side = negative == other.negative ? 1 : -1;
            int end = Math.min(LIMBS, Math.max(length, other.length) + 1);
            long carry = 0;
            for (int i = 0; i < end; i++) {
                long value = limbs[i] + (long) side * other.limbs[i] + carry;
                limbs[i] = (int) (value & MASK);
                carry = value >> BITS;
            }
            if (carry < 0) {
                complement(end);
                negative = !negative;
            }
            settle(end);
        }

        /** Multiplies by a number whose magnitude is below 2 to the power 30. */
        void multiplyBy(int factor) {
            if (factor == 0) {
                clear();
                return;
            }
            magnify(Math.abs((long) factor));
            if (factor < 0) {
                flipSign();
            }
        }

        /** Multiplies the magnitude by a positive number below 2 to the power 30. */
        private void magnify(long factor) {
            long carry = 0;
            int end = 0;
            while (end < LIMBS && (end < length || carry != 0)) {
                long value = limbs[end] * factor + carry;
                limbs[end] = (int) (value & MASK);
                carry = value >> BITS;
                end++;
            }
            length = end;
        }

        /**
         * Becomes the remainder of its magnitude divided by that of the divisor, and writes the
         * quotient of the magnitudes: the long division of Knuth's algorithm D.
         */
        void reduceBy(Big divisor, Big scaled, Big quotient) {
            quotient.clear();
            negative = false;
            int size = divisor.length;
            if (size == 0 || length < size) {
                return;
            }
            int factor = BASE / Math.max(1, divisor.limbs[size - 1] + 1);
            scaled.become(divisor);
            scaled.magnify(factor);
            magnify(factor);
            int lead = Math.max(1, scaled.limbs[size - 1]);
            for (int at = length - size; at >= 0; at--) {
                long top = at + size < LIMBS ? limbs[at + size] : 0;
                long guess = Math.min(((top << BITS) + limbs[at + size - 1]) / lead, MASK);
                long carry = guess == 0 ? 0 : addMultiple(scaled, at, -guess);
                // The scaling makes the guess at most 2 too great.
                for (int tries = 0; tries < 3 && carry < 0; tries++) {
                    carry += addMultiple(scaled, at, 1);
                    guess--;
                }
                quotient.limbs[at] = (int) guess;
            }
            quotient.settle(length - size + 1);
            settle(length);
            divideBy(factor);
        }

        /** Divides the magnitude by a positive number that divides it, below 2 to the power 30. */
        private void divideBy(int divisor) {
            if (divisor <= 0) {
                return;
            }
            long rest = 0;
            for (int i = length - 1; i >= 0; i--) {
                long value = (rest << BITS) + limbs[i];
                limbs[i] = (int) (value / divisor);
                rest = value % divisor;
            }
            if (length > 0 && limbs[length - 1] == 0) {
                length--;
            }
        }

        /** Adds other * factor to the magnitude, from a limb on, and returns the carry out of it. */
        private long addMultiple(Big other, int at, long factor) {
            long carry = 0;
            for (int i = 0; i <= other.length && at + i < LIMBS; i++) {
                long value = limbs[at + i] + factor * (i < LIMBS ? other.limbs[i] : 0) + carry;
                limbs[at + i] = (int) (value & MASK);
                carry = value >> BITS;
            }
            return carry;
        }

        private void complement(int end) {
            long carry = 1;
            for (int i = 0; i < end; i++) {
                long value = (MASK - limbs[i]) + carry;
                limbs[i] = (int) (value & MASK);
                carry = value >> BITS;
            }
        }

        private void settle(int end) {
            length = end;
            while (length > 0 && limbs[length - 1] == 0) {
                length--;
            }
            if (length == 0) {
                negative = false;
            }
        }
    }

    /** A polynomial of a degree of at most 6, with coefficients of any size. */
    private static final class Polynomial {
        /** Those beyond the degree are 0. */
        final Big[] coefficients = new Big[POWERS];
        int degree = -1;

        Polynomial() {
            for (int i = 0; i < POWERS; i++) {
                coefficients[i] = new Big();
            }
        }

        void clear() {
            for (int i = 0; i <= degree; i++) {
                coefficients[i].clear();
            }
            degree = -1;
        }

        void become(Polynomial other) {
            for (int i = 0; i < POWERS; i++) {
                coefficients[i].become(other.coefficients[i]);
            }
            degree = other.degree;
        }

        void becomeRow(int[] slot) {
            for (int i = 0; i < POWERS; i++) {
                coefficients[i].becomeValue(slot[i]);
            }
            settle();
        }

        void becomeDerivative(Polynomial other) {
            for (int i = 1; i < POWERS; i++) {
                coefficients[i - 1].become(other.coefficients[i]);
                coefficients[i - 1].multiplyBy(i);
            }
            coefficients[POWERS - 1].clear();
            settle();
        }

        /** Writes the coefficients as longs; one that is too great for a slot stays too great. */
        void writeRow(long[] row) {
            for (int i = 0; i < POWERS; i++) {
                boolean isLong = coefficients[i].length > 1;
                row[i] = isLong ? GREATEST_COEFFICIENT + 1 : coefficients[i].lowestBits();
            }
        }

        void settle() {
            degree = POWERS - 1;
            while (degree >= 0 && coefficients[degree].isZero()) {
                degree--;
            }
        }

        void flipSigns() {
            for (int i = 0; i <= degree; i++) {
                coefficients[i].flipSign();
            }
        }

        void makeLeadPositive() {
            if (degree >= 0 && coefficients[degree].negative) {
                flipSigns();
            }
        }

        /** How often two neighbors among the coefficients that are not 0 have opposite signs. */
        int coefficientChanges() {
            int changes = 0;
            int last = 0;
            for (int i = 0; i <= degree; i++) {
                int next = coefficients[i].signum();
                if (next * last < 0) {
                    changes++;
                }
                if (next != 0) {
                    last = next;
                }
            }
            return changes;
        }
    }

    /** A Sturm sequence: the degrees fall from element to element, so there are at most 7. */
    private static final class Sequence {
        final Polynomial[] elements = new Polynomial[POWERS];
        int length;

        Sequence() {
            for (int i = 0; i < POWERS; i++) {
                elements[i] = new Polynomial();
            }
        }
    }

    /** What is done with polynomials, and the rows in which it is done. */
    private static final class Algebra {
        /** Far above what Euclid's algorithm needs for numbers of 600 bits. */
        private static final int STEPS = 10000;

        private final Big larger = new Big();
        private final Big smaller = new Big();
        private final Big scaled = new Big();
        private final Big quotient = new Big();
        private final Big content = new Big();
        private final Big leadSize = new Big();
        private final Big factor = new Big();
        private final Big product = new Big();
        private final Big value = new Big();
        private final Big scale = new Big();
        private final Polynomial left = new Polynomial();
        private final Polynomial right = new Polynomial();
        private final Polynomial slope = new Polynomial();
        private final Polynomial repeated = new Polynomial();

        /** Writes the greatest common divisor of two numbers, which is positive or 0. */
        private void writeCommonFactor(Big one, Big other, Big into) {
            Big dividend = larger;
            Big divisor = smaller;
            dividend.becomeMagnitude(one);
            divisor.becomeMagnitude(other);
            for (int step = 0; step < STEPS && divisor.length > 2; step++) {
                dividend.reduceBy(divisor, scaled, quotient);
                Big rest = dividend;
                dividend = divisor;
                divisor = rest;
            }
            if (divisor.isZero()) {
                into.become(dividend);
                return;
            }
            // From here on, all numbers fit in a long.
            dividend.reduceBy(divisor, scaled, quotient);
            into.becomeValue(commonFactor(divisor.lowestBits(), dividend.lowestBits()));
        }

        private static long commonFactor(long one, long other) {
            long dividend = one;
            long divisor = other;
            for (int step = 0; step < STEPS && divisor != 0; step++) {
                long rest = dividend % divisor;
                dividend = divisor;
                divisor = rest;
            }
            return dividend;
        }

        /** Divides a number by one that divides it. */
        private void divideExactly(Big number, Big divisor) {
            boolean opposite = number.negative != divisor.negative;
            number.reduceBy(divisor, scaled, quotient);
            number.become(quotient);
            if (opposite) {
                number.flipSign();
            }
        }

        /** Divides the coefficients by their greatest common divisor. */
        private void makePrimitive(Polynomial polynomial) {
            int top = polynomial.degree;
            if (top < 0) {
                return;
            }
            content.becomeMagnitude(polynomial.coefficients[top]);
            for (int i = top - 1; i >= 0 && !content.isOne(); i--) {
                if (!polynomial.coefficients[i].isZero()) {
                    writeCommonFactor(content, polynomial.coefficients[i], content);
                }
            }
            if (content.isOne()) {
                return;
            }
            for (int i = 0; i <= top; i++) {
                divideExactly(polynomial.coefficients[i], content);
            }
        }

        /** Leaves of the dividend its remainder, multiplied by a positive integer. */
        private void reduce(Polynomial dividend, Polynomial divisor) {
            int size = divisor.degree;
            if (size < 0) {
                return;
            }
            leadSize.becomeMagnitude(divisor.coefficients[size]);
            boolean opposite = divisor.coefficients[size].negative;
            for (int top = dividend.degree; top >= size; top--) {
                factor.become(dividend.coefficients[top]);
                if (factor.isZero()) {
                    continue;
                }
                if (!opposite) {
                    factor.flipSign();
                }
                dividend.coefficients[top].clear();
                for (int i = 0; i < top; i++) {
                    int below = i - (top - size);
                    combine(dividend.coefficients[i], below < 0 ? null : divisor.coefficients[below]);
                }
            }
            dividend.settle();
        }

        /** Makes of a coefficient: coefficient * leadSize + factor * other, where there is another. */
        private void combine(Big coefficient, Big other) {
            product.becomeProduct(coefficient, leadSize);
            coefficient.become(product);
            if (other != null) {
                product.becomeProduct(factor, other);
                coefficient.plus(product);
            }
        }

        /** Writes the greatest common divisor; it may be written over one of the two. */
        void writeCommonDivisor(Polynomial one, Polynomial other, Polynomial into) {
            Polynomial dividend = left;
            Polynomial divisor = right;
            dividend.become(one);
            divisor.become(other);
            makePrimitive(dividend);
            makePrimitive(divisor);
            for (int step = 0; step < STEPS && divisor.degree >= 0; step++) {
                reduce(dividend, divisor);
                makePrimitive(dividend);
                Polynomial rest = dividend;
                dividend = divisor;
                divisor = rest;
            }
            into.become(dividend);
            into.makeLeadPositive();
        }

        /** Writes the greatest common divisor of a polynomial and its derivative. */
        void writeRepeated(Polynomial polynomial, Polynomial into) {
            slope.becomeDerivative(polynomial);
            writeCommonDivisor(polynomial, slope, into);
        }

        /**
         * Writes the quotient by a primitive polynomial that divides the dividend, made primitive,
         * with a positive leading coefficient. By Gauss's lemma every digit is an integer.
         */
        void writeQuotient(Polynomial dividend, Polynomial divisor, Polynomial into) {
            int size = divisor.degree;
            into.clear();
            if (size < 0) {
                return;
            }
            left.become(dividend);
            for (int gap = dividend.degree - size; gap >= 0; gap--) {
                Big digit = into.coefficients[gap];
                digit.become(left.coefficients[gap + size]);
                divideExactly(digit, divisor.coefficients[size]);
                for (int i = 0; i <= size; i++) {
                    product.becomeProduct(digit, divisor.coefficients[i]);
                    product.flipSign();
                    left.coefficients[gap + i].plus(product);
                }
            }
            into.settle();
            makePrimitive(into);
            into.makeLeadPositive();
        }

        void writeSquareFree(Polynomial polynomial, Polynomial into) {
            slope.becomeDerivative(polynomial);
            writeCommonDivisor(polynomial, slope, repeated);
            writeQuotient(polynomial, repeated, into);
        }

        /** Writes the Sturm sequence; it is empty for the zero polynomial. */
        void writeSturm(Polynomial polynomial, Sequence into) {
            into.length = 0;
            if (polynomial.degree < 0) {
                return;
            }
            into.elements[0].become(polynomial);
            makePrimitive(into.elements[0]);
            into.length = 1;
            if (polynomial.degree == 0) {
                return;
            }
            into.elements[1].becomeDerivative(polynomial);
            makePrimitive(into.elements[1]);
            into.length = 2;
            for (int index = 2; index < POWERS; index++) {
                Polynomial next = into.elements[index];
                next.become(into.elements[index - 2]);
                reduce(next, into.elements[index - 1]);
                if (next.degree < 0) {
                    return;
                }
                next.flipSigns();
                makePrimitive(next);
                into.length = index + 1;
            }
        }

        /** The sign at n / 2^k, from the value times 2^(k * degree), which is an integer. */
        int signAt(Polynomial polynomial, int n, int k) {
            value.clear();
            scale.becomeValue(1);
            for (int i = polynomial.degree; i >= 0; i--) {
                value.multiplyBy(n);
                product.becomeProduct(polynomial.coefficients[i], scale);
                value.plus(product);
                scale.multiplyBy(1 << k);
            }
            return value.signum();
        }

        int changesAt(Sequence sequence, int n, int k) {
            int changes = 0;
            int last = 0;
            for (int i = 0; i < sequence.length; i++) {
                int next = signAt(sequence.elements[i], n, k);
                if (next * last < 0) {
                    changes++;
                }
                if (next != 0) {
                    last = next;
                }
            }
            return changes;
        }

        /**
         * The number of roots in an interval, by the sequence of a square-free polynomial: that
         * counts the roots up to the greater end, so a root at this end is taken off again.
         */
        int rootsInside(Sequence sequence, int level, int low, int high) {
            int atHigh = isRoot(sequence, level, high) ? 1 : 0;
            if (low == high) {
                return atHigh;
            }
            return changesAt(sequence, low, level) - changesAt(sequence, high, level) - atHigh;
        }

        boolean isRoot(Sequence sequence, int level, int number) {
            return signAt(sequence.elements[0], number, level) == 0;
        }
    }

    /** An interval of an isolation: from low to high, both divided by 2 to the power of the level. */
    private static final class Interval {
        int level;
        int low;
        int high;
        int roots;

        void become(int newLevel, int newLow, int newHigh, int newRoots) {
            level = newLevel;
            low = newLow;
            high = newHigh;
            roots = newRoots;
        }

        boolean isPoint() {
            return low == high;
        }
    }

    /** The isolation; without one, it has no intervals. */
    private static final class Isolation {
        final Polynomial source = new Polynomial();
        final ArrayList<Interval> parts = new ArrayList<>();
        private final Algebra algebra;
        private final Sequence sequence = new Sequence();

        Isolation(Algebra algebra) {
            this.algebra = algebra;
        }

        /** Begins with one interval, and returns the number of roots in it. */
        int begin(Polynomial polynomial, Polynomial squareFree, int bound) {
            source.become(polynomial);
            algebra.writeSturm(squareFree, sequence);
            parts.clear();
            int roots = algebra.rootsInside(sequence, 0, -bound, bound);
            insert(0, 0, -bound, bound, roots);
            return roots;
        }

        /** Puts the open halves of an interval, and its midpoint if that is a root, in its place. */
        void split(int index) {
            Interval part = parts.get(index);
            int level = part.level + 1;
            int low = 2 * part.low;
            int middle = part.low + part.high;
            int high = 2 * part.high;
            int before = algebra.rootsInside(sequence, level, low, middle);
            int on = algebra.isRoot(sequence, level, middle) ? 1 : 0;
            int after = part.roots - before - on;
            part.become(level, low, middle, before);
            insert(index + 1, level, middle, high, after);
            if (on > 0) {
                insert(index + 1, level, middle, middle, on);
            }
        }

        /** Keeps of an interval with one root the half, or the midpoint, that has the root. */
        void narrow(Interval part) {
            int level = part.level + 1;
            int middle = part.low + part.high;
            if (algebra.isRoot(sequence, level, middle)) {
                part.become(level, middle, middle, 1);
            } else if (algebra.rootsInside(sequence, level, 2 * part.low, middle) == 1) {
                part.become(level, 2 * part.low, middle, 1);
            } else {
                part.become(level, middle, 2 * part.high, 1);
            }
        }

        /** Removes the intervals without roots, and returns how many there were. */
        int dropEmpty() {
            int removed = 0;
            for (int i = parts.size() - 1; i >= 0; i--) {
                if (parts.get(i).roots == 0) {
                    parts.remove(i);
                    removed++;
                }
            }
            return removed;
        }

        private void insert(int index, int level, int low, int high, int roots) {
            Interval part = new Interval();
            part.become(level, low, high, roots);
            parts.add(index, part);
        }
    }
}
