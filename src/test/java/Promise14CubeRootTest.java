/**
 * Promise 14: "less than one PLACE away from the exact cube root", at exactly one PLACE and on both sides of that; the
 * PLACE on both sides of a power of 2; "r is 0: 1 exactly if a is 0".
 */
public final class Promise14CubeRootTest extends Trial {
    public static void main(String[] args) {
        new Promise14CubeRootTest().run();
    }

    @Override
    void sentences() {
        for (int sign : SIGNS) {
            exactRoots(sign);
            placeOfAPowerOfTwo(sign);
            placeBelowAPowerOfTwo(sign);
            placeAboveAPowerOfTwo(sign);
            numbersAboveAPowerOfTwo(sign);
            rootsBetweenTwoNumbers(sign);
            rootIsZero(sign);
            numberIsZero(sign);
            otherSign(sign);
            farAway(sign);
            ofItself(sign);
        }
    }

    /** Register 0 is a and register 1 is r. */
    private void root(String what, long a, int aE, long r, int rE, int due) {
        given(a, aE, r, rE);
        answers(what, x -> x.cubeRoot(0, 1), due);
    }

    private void root(String what, long a, int aE, long r, int rE, boolean due) {
        root(what, a, aE, r, rE, due ? 1 : 0);
    }

    /** The cube root of n^3 is n itself: its neighbours are one PLACE away, which is not less than one. */
    private void exactRoots(int s) {
        for (long n : new long[] {1, 3, 5, 7, 31, 99, (1L << 17) - 1}) {
            for (int e : new int[] {-33, -1, 0, 1, 15}) {
                int up = Long.numberOfLeadingZeros(n) - 11;
                long r = s * (n << up);
                long cube = s * ((n * n * n) << (Long.numberOfLeadingZeros(n * n * n) - 11));
                int cubeE = 3 * e - (Long.numberOfLeadingZeros(n * n * n) - 11);
                int rE = e - up;
                // Just below a power of 2 the numbers, and so the PLACE, are half as far apart.
                long below = n == 1 ? s * ALL : r - s;
                int belowE = n == 1 ? rE - 1 : rE;
                long lesser = n == 1 ? s * ALL : cube - s;
                int lesserE = n == 1 ? cubeE - 1 : cubeE;
                sentence("less than one PLACE away from " + s * n + " * 2^" + e);
                root("exact", cube, cubeE, r, rE, 1);
                root("exactly one PLACE above", cube, cubeE, r + s, rE, 0);
                root("exactly one PLACE below", cube, cubeE, below, belowE, 0);
                root("a just above the cube", cube + s, cubeE, r, rE, 1);
                root("a just above, less than one PLACE above", cube + s, cubeE, r + s, rE, 1);
                root("a just above, more than one PLACE above", cube + s, cubeE, r + 2 * s, rE, 0);
                root("a just above, more than one PLACE below", cube + s, cubeE, below, belowE, 0);
                root("a just below the cube", lesser, lesserE, r, rE, 1);
                root("a just below, more than one PLACE above", lesser, lesserE, r + s, rE, 0);
                root("a just below, less than one PLACE below", lesser, lesserE, below, belowE, 1);
                root("a just below, more than one PLACE below", lesser, lesserE, below - s, belowE, 0);
            }
        }
    }

    /** (2 - 2^-51)^3 is just above 8 - 6 * 2^-50, and (2 + 2^-51)^3 just above 8 + 3 * 2^-49. */
    private void placeOfAPowerOfTwo(int s) {
        sentence("The PLACE is 2^(k - 52), r is 2^k, sign " + s);
        root("a is r^3", s, 3, s, 1, 1);
        for (int i = 1; i <= 8; i++) {
            root("a " + i + " numbers below r^3", s * (ALL + 1 - i), -50, s, 1, i <= 5);
            root("a " + i + " numbers above r^3", s * ((1L << 52) + i), -49, s, 1, i <= 3);
        }
    }

    /** r is 2 - 2^-52, whose PLACE is 2^-52: the root must be between 2 - 2^-51 and 2. */
    private void placeBelowAPowerOfTwo(int s) {
        sentence("The PLACE is 2^(k - 52), r is just below 2^(k+1), sign " + s);
        root("a is 8", s, 3, s * ALL, -52, 0);
        for (int i = 1; i <= 8; i++) {
            root("a " + i + " numbers below 8", s * (ALL + 1 - i), -50, s * ALL, -52, i <= 5);
        }
        root("a just above 8", s * ((1L << 52) + 1), -49, s * ALL, -52, 0);
    }

    /** r is 2 + 2^-51, whose PLACE is 2^-51: the root must be between 2 and 2 + 2^-50, whose cube is above 8 + 6 * 2^-49. */
    private void placeAboveAPowerOfTwo(int s) {
        sentence("The PLACE is 2^(k - 52), r is just above 2^k, sign " + s);
        for (int i = 0; i <= 8; i++) {
            root("a " + i + " numbers above 8", s * ((1L << 52) + i), -49, s * ((1L << 52) + 1), -51, i >= 1 && i <= 6);
        }
        root("a just below 8", s * ALL, -50, s * ((1L << 52) + 1), -51, 0);
    }

    /**
     * Rows of a and of the number just below its cube root: that one and the next are acceptable. The last two a are
     * the two nearest to (2^32 + 1)^3 = 2^96 + 3 * 2^64 + 3 * 2^32 + 1, below and above it.
     */
    private void rootsBetweenTwoNumbers(int s) {
        long n = ((1L << 32) + 1) << 20;
        long[][] rows = {{1, -100, 7149018786131516L, -86}, {(1L << 52) + 1, -152, 7149018786131517L, -86},
            {ALL, 47, 5674179970822794L, -19}, {1, 98, 7149018786131516L, -20}, {2, 0, 5674179970822794L, -52},
            {3, 0, 6495314627411702L, -52}, {10, 0, 4851355633610830L, -51},
            {(1L << 32) + 3, 64, n - 1, -20}, {(((1L << 32) + 3) << 20) + 1, 44, n, -20}};
        for (long[] row : rows) {
            rootAbove(s, row[0], (int) row[1], row[2], (int) row[3]);
        }
    }

    private void rootAbove(int s, long a, int aE, long below, int rE) {
        sentence("less than one PLACE away from the cube root of " + s * a + " * 2^" + aE);
        for (int i = -3; i <= 4; i++) {
            root(i + " PLACES above the number below it", s * a, aE, s * (below + i), rE, i == 0 || i == 1);
        }
    }

    /** The numbers just above 2 and 4: the cubes near them are just above those powers of 2, too. */
    private void numbersAboveAPowerOfTwo(int s) {
        long[] aboveTwo = {5674179970822795L, 5674179970822795L, 5674179970822796L, 5674179970822796L, 5674179970822796L};
        long[] aboveFour = {7149018786131517L, 7149018786131517L, 7149018786131518L, 7149018786131518L, 7149018786131519L};
        for (int j = 1; j <= 5; j++) {
            rootAbove(s, (1L << 52) + j, -51, aboveTwo[j - 1], -52);
            rootAbove(s, (1L << 52) + j, -50, aboveFour[j - 1], -52);
        }
    }

    private void rootIsZero(int s) {
        sentence("r is 0: 1 exactly if a is 0, sign " + s);
        root("0", 0, 0, 0, 0, 1);
        root("the nearest to 0", s, -100, 0, 0, 0);
        root("1", s, 0, 0, 0, 0);
        root("the greatest", s * ALL, 47, 0, 0, 0);
    }

    private void numberIsZero(int s) {
        sentence("a is 0, sign " + s);
        root("the nearest to 0", 0, 0, s, -100, 0);
        root("1", 0, 0, s, 0, 0);
        root("the greatest", 0, 0, s * ALL, 47, 0);
    }

    private void otherSign(int s) {
        sentence("the exact cube root has the sign of a, sign " + s);
        root("27 and -3", 27 * s, 0, -3 * s, 0, 0);
        root("1 and -1", s, 0, -s, 0, 0);
        root("2^-99 and -2^-33", s, -99, -s, -33, 0);
    }

    private void farAway(int s) {
        sentence("far more than one PLACE away, sign " + s);
        long[][] ends = {{1, -100}, {(1L << 52) + 1, -152}, {1, 99}, {ALL, 47}};
        for (long[] a : ends) {
            for (long[] r : ends) {
                root(a[0] + " * 2^" + a[1] + " and " + r[0] + " * 2^" + r[1], s * a[0], (int) a[1], s * r[0], (int) r[1], 0);
            }
        }
        root("2^99 and 2^32", s, 99, s, 32, 0);
        root("2^99 and 2^33", s, 99, s, 33, 1);
        root("2^99 and 2^34", s, 99, s, 34, 0);
        root("2^-99 and 2^-33", s, -99, s, -33, 1);
    }

    /** The root of 1 + d is 1 + d / 3: one number beside 1 it is two thirds of a PLACE away, two beside it is more. */
    private void ofItself(int s) {
        sentence("a and r are the same register, sign " + s);
        long[][] rows = {{1, 0, 1}, {(1L << 52) + 1, -52, 1}, {(1L << 52) + 2, -52, 0}, {ALL, -53, 1}, {ALL - 1, -53, 0},
            {2, 0, 0}, {1, -100, 0}, {ALL, 47, 0}};
        for (long[] row : rows) {
            given(s * row[0], row[1]);
            answers(row[0] + " * 2^" + row[1], x -> x.cubeRoot(0, 0), row[2]);
        }
        given(0, 0);
        answers("0", x -> x.cubeRoot(0, 0), 1);
    }
}
