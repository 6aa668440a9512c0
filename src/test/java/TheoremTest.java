/**
 * What the document's "Terms" say of roots, Sturm sequences, coefficients and isolations, tried on
 * polynomials from a fixed sequence of numbers: many of them have multiple roots.
 */
public final class TheoremTest extends TestBase {
    /** Beyond every root of a polynomial in a slot. */
    private static final int FAR = 1000000;

    private static long seed = 20261119L;

    private static int between(int low, int high) {
        seed = seed * 6364136223846793005L + 1442695040888963407L;
        return low + (int) ((seed >>> 33) % (high - low + 1));
    }

    /** A product of up to three factors, some of them more than once, in a slot that is not 4. */
    private static void plant(SturmRoots x, int slot) {
        put(x, slot, between(1, 3));
        for (int factor = between(0, 3); factor > 0; factor--) {
            put(x, 4, between(-4, 4), between(1, 2), between(-1, 1));
            for (int times = between(1, 3); times > 0; times--) {
                outcome(() -> x.multiply(slot, 4, slot));
            }
        }
        put(x, 4);
    }

    private static int rootsBeyond(SturmRoots x, int slot, int n, int k) {
        return x.countAll(slot, n, k, FAR, 0);
    }

    private static void countsOfOne(SturmRoots x, String p) {
        int degree = x.degree(0);
        int distinct = x.distinctRoots(0);
        int all = x.countAll(0, -FAR, 0, FAR, 0);
        due("distinct roots between far points of " + p, distinct, () -> x.countDistinct(0, -FAR, 0, FAR, 0));
        due("changes at far points of " + p, distinct, () -> x.signChanges(0, -FAR, 0) - x.signChanges(0, FAR, 0));
        due("roots at most the degree, and as odd: " + p, true, () -> all <= degree && (degree - all) % 2 == 0);
        due("no more distinct ones: " + p, true, () -> distinct <= all && (distinct > 0 || all == 0));
        due("the theorem for " + p, true, () -> x.isTrue(0));
        // There is no root between 0 and 1/4096, as the factors have small coefficients.
        int positive = rootsBeyond(x, 0, 1, 12);
        int spare = x.coefficientSignChanges(0) - positive;
        due("Descartes for " + p, true, () -> spare >= 0 && spare % 2 == 0);
        x.derivative(0, 4);
        if (degree > 0) {
            due("Rolle for " + p, true, () -> x.distinctRoots(4) >= distinct - 1);
        }
    }

    /** The points here are roots, again and again. */
    private static void squareFreeCounts(SturmRoots x, String p) {
        x.squareFreePart(0, 4);
        due("distinct roots of the square-free part of " + p, x.distinctRoots(0), () -> x.distinctRoots(4));
        due("all of them are simple: " + p, x.distinctRoots(0), () -> x.countAll(4, -FAR, 0, FAR, 0));
        for (int n = -9; n < 9; n++) {
            int low = n;
            int inside = x.signChanges(4, low, 1) - x.signChanges(4, low + 1, 1);
            int atHigh = x.sign(4, low + 1, 1) == 0 ? 1 : 0;
            due("a root is one of the square-free part: " + p, x.sign(0, low, 1) == 0, () -> x.sign(4, low, 1) == 0);
            if (x.sign(0, low, 1) != 0 && x.sign(0, low + 1, 1) != 0) {
                due("between " + low + "/2 and the next one: " + p, inside, () -> x.countDistinct(0, low, 1, low + 1, 1));
            }
            int beyond = x.signChanges(4, low, 1) - x.signChanges(4, FAR, 0);
            int beyondHigh = x.signChanges(4, low + 1, 1) - x.signChanges(4, FAR, 0);
            due("beyond " + low + "/2: " + p, beyond, () -> inside + beyondHigh);
            due("a root at the greater point counts: " + p, true, () -> inside >= atHigh);
        }
    }

    private static void movedRoots(SturmRoots x, String p) {
        int by = between(-3, 3);
        int factor = between(2, 4);
        boolean shifted = !STATE.equals(outcome(() -> x.shift(0, by, 4)));
        for (int n = -9; shifted && n <= 9; n++) {
            int at = n;
            due("shifted by " + by + ": " + p, x.sign(0, at, 1), () -> x.sign(4, at - 2 * by, 1));
        }
        x.reflect(0, 4);
        for (int n = -9; n <= 9; n++) {
            int at = n;
            due("reflected: " + p, x.sign(0, at, 1), () -> x.sign(4, -at, 1));
        }
        boolean scaled = !STATE.equals(outcome(() -> x.scale(0, factor, 4)));
        for (int n = -9; scaled && n <= 9; n++) {
            int at = n;
            due("scaled by " + factor + ": " + p, x.sign(0, at, 1), () -> x.sign(4, factor * at, 1));
        }
    }

    private static void rootsOfProducts(SturmRoots x, String p) {
        plant(x, 1);
        String q = text(x, 1);
        if (STATE.equals(outcome(() -> x.multiply(0, 1, 2)))) {
            return;
        }
        x.gcd(0, 1, 3);
        int sum = x.distinctRoots(0) + x.distinctRoots(1) - x.distinctRoots(3);
        due("roots of " + p + " times " + q, sum, () -> x.distinctRoots(2));
        due("sign of " + p + " times " + q, x.sign(0, 3, 1) * x.sign(1, 3, 1), () -> x.sign(2, 3, 1));
    }

    private static void isolations(SturmRoots x, String p) {
        int distinct = x.distinctRoots(0);
        int all = x.countAll(0, -FAR, 0, FAR, 0);
        due("isolate " + p, distinct, () -> x.isolate(0));
        for (int i = 0; i < 8 && x.intervals() > 0; i++) {
            int index = between(0, x.intervals() - 1);
            switch (between(0, 4)) {
                case 0 -> outcome(() -> x.refine(index, between(1, 3)));
                case 1 -> x.removeEmpty();
                default -> outcome(() -> x.bisect(index));
            }
            due("all intervals together hold the roots of " + p, distinct, () -> rootsInAll(x));
        }
        due("in ascending order: " + p, true, () -> areAscending(x));
        x.removeEmpty();
        int crowded = firstWithTwoRoots(x);
        for (int i = 0; i < 20 && crowded >= 0; i++) {
            x.bisect(crowded);
            x.removeEmpty();
            crowded = firstWithTwoRoots(x);
        }
        due("an interval for each root of " + p, distinct, () -> x.intervals());
        due("the multiplicities together: " + p, all, () -> multiplicitiesOfAll(x));
        due("still in ascending order: " + p, true, () -> areAscending(x));
    }

    private static int rootsInAll(SturmRoots x) {
        int sum = 0;
        for (int i = 0; i < x.intervals(); i++) {
            sum += x.rootsIn(i);
        }
        return sum;
    }

    private static int multiplicitiesOfAll(SturmRoots x) {
        int sum = 0;
        for (int i = 0; i < x.intervals(); i++) {
            sum += x.multiplicity(i);
        }
        return sum;
    }

    private static boolean areAscending(SturmRoots x) {
        long last = Long.MIN_VALUE;
        for (int i = 0; i < x.intervals(); i++) {
            int rest = 12 - x.interval(i, 'd');
            long low = (long) x.interval(i, 'm') << rest;
            long high = (long) x.interval(i, 'n') << rest;
            if (low < last || high < low) {
                return false;
            }
            last = high;
        }
        return true;
    }

    /** The index of the first interval with two roots or more, or -1. */
    private static int firstWithTwoRoots(SturmRoots x) {
        for (int i = 0; i < x.intervals(); i++) {
            if (x.rootsIn(i) > 1) {
                return i;
            }
        }
        return -1;
    }

    private static SturmRoots planted() {
        SturmRoots x = new SturmRoots();
        plant(x, 0);
        return x;
    }

    public static void main(String[] args) {
        begin("terms");
        for (int i = 0; i < 300; i++) {
            SturmRoots x = planted();
            countsOfOne(x, text(x, 0));
            squareFreeCounts(x, text(x, 0));
            SturmRoots y = planted();
            movedRoots(y, text(y, 0));
            rootsOfProducts(y, text(y, 0));
            SturmRoots z = planted();
            isolations(z, text(z, 0));
        }
        finish();
    }
}
