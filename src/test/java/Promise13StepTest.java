/**
 * Promise 13: the neighbours at every power of 2 and at the ends; "a need not be NARROW"; "Those from 2^-100 to 2^100
 * alone count, with 0; there is none in that direction: RANGE. LOST becomes 0".
 */
public final class Promise13StepTest extends Trial {
    public static void main(String[] args) {
        new Promise13StepTest().run();
    }

    @Override
    void sentences() {
        for (int sign : SIGNS) {
            for (boolean narrow : BOTH) {
                atEveryPower(sign, narrow);
                betweenPowers(sign, narrow);
                aroundZero(sign, narrow);
                beyondTheGreatest(sign, narrow);
            }
            needNotBeNarrow(sign);
            needNotBeNarrowAtTheLeast(sign);
            needNotBeNarrowAtTheGreatest(sign);
        }
        throughZero();
    }

    /** Outward from a power of 2 the next one is twice as far as inward. */
    private void atEveryPower(int s, boolean narrow) {
        int bits = bitsOf(narrow);
        long all = allOf(bits);
        long half = halfOf(bits);
        boolean out = s > 0;
        sentence("the neighbours of 2^k, " + bits + " bits, sign " + s);
        for (int i = -99; i <= 99; i++) {
            int k = i;
            given(s, k, s * all, k - bits, s * (half + 1), k - bits + 1);
            done("outward from 2^" + k, x -> x.step(7, 0, out, narrow), 7, s * (half + 1), k - bits + 1, 0);
            done("inward from 2^" + k, x -> x.step(7, 0, !out, narrow), 7, s * all, k - bits, 0);
            done("outward to 2^" + k, x -> x.step(7, 1, out, narrow), 7, s, k, 0);
            done("inward to 2^" + k, x -> x.step(7, 2, !out, narrow), 7, s, k, 0);
        }
    }

    private void betweenPowers(int s, boolean narrow) {
        int bits = bitsOf(narrow);
        long m = 3 * halfOf(bits) / 2;
        boolean out = s > 0;
        sentence("the neighbours between two powers of 2, " + bits + " bits, sign " + s);
        given(s * 3, 0, s * (m + 1), 2 - bits, s * (m - 1), 2 - bits);
        done("outward from 3", x -> x.step(7, 0, out, narrow), 7, s * (m + 1), 2 - bits, 0);
        done("inward from 3", x -> x.step(7, 0, !out, narrow), 7, s * (m - 1), 2 - bits, 0);
        done("inward to 3", x -> x.step(7, 1, !out, narrow), 7, s * 3, 0, 0);
        done("outward to 3", x -> x.step(7, 2, out, narrow), 7, s * 3, 0, 0);
        done("into itself", x -> x.step(0, 0, out, narrow), 0, s * (m + 1), 2 - bits, 0);
    }

    private void aroundZero(int s, boolean narrow) {
        int bits = bitsOf(narrow);
        long half = halfOf(bits);
        boolean out = s > 0;
        sentence("Those from 2^-100 alone count, with 0, " + bits + " bits, sign " + s);
        given(0, 0, s, -100, s * (half + 1), -99 - bits, s * (half + 2), -99 - bits);
        done("outward from 0", x -> x.step(7, 0, out, narrow), 7, s, -100, 0);
        done("outward from 2^-100", x -> x.step(7, 1, out, narrow), 7, s * (half + 1), -99 - bits, 0);
        done("inward from 2^-100", x -> x.step(7, 1, !out, narrow), 7, 0, 0, 0);
        done("inward to 2^-100", x -> x.step(7, 2, !out, narrow), 7, s, -100, 0);
        done("inward to the one above", x -> x.step(7, 3, !out, narrow), 7, s * (half + 1), -99 - bits, 0);
        done("outward from the one above", x -> x.step(7, 2, out, narrow), 7, s * (half + 2), -99 - bits, 0);
        done("2^-100 into itself", x -> x.step(1, 1, !out, narrow), 1, 0, 0, 0);
        done("0 into itself", x -> x.step(0, 0, out, narrow), 0, s, -100, 0);
    }

    private void beyondTheGreatest(int s, boolean narrow) {
        int bits = bitsOf(narrow);
        long all = allOf(bits);
        boolean out = s > 0;
        sentence("there is none in that direction: RANGE, " + bits + " bits, sign " + s);
        given(s * all, 100 - bits, s * (all - 1), 100 - bits, s * ALL, 47);
        range("outward from the greatest", x -> x.step(7, 0, out, narrow));
        range("outward from the greatest, into itself", x -> x.step(0, 0, out, narrow));
        range("outward from the greatest of 53 bits", x -> x.step(7, 2, out, narrow));
        done("outward to the greatest", x -> x.step(7, 1, out, narrow), 7, s * all, 100 - bits, 0);
        done("inward from the greatest", x -> x.step(7, 0, !out, narrow), 7, s * (all - 1), 100 - bits, 0);
        given(s, 99);
        done("outward from 2^99", x -> x.step(7, 0, out, narrow), 7, s * (halfOf(bits) + 1), 100 - bits, 0);
    }

    /** Around 1, with 24 bits: the neighbours of what lies between two NARROW numbers are those two. */
    private void needNotBeNarrow(int s) {
        long one = 1L << 52;
        long next = 1L << 29;
        boolean out = s > 0;
        sentence("a need not be NARROW, sign " + s);
        given(s * (one + 1), -52, s * (one + next - 1), -52, s * (one + next + 1), -52, s * (2 * one - 1), -53,
            s * (2 * one - next + 1), -53, s * (2 * one - next - 1), -53, s * (one + next / 2), -52);
        between("just above 1", 0, out, s * ((1L << 23) + 1), -23, s, 0);
        between("just below its neighbour", 1, out, s * ((1L << 23) + 1), -23, s, 0);
        between("just above its neighbour", 2, out, s * ((1L << 22) + 1), -22, s * ((1L << 23) + 1), -23);
        between("just below 1", 3, out, s, 0, s * ALL_NARROW, -24);
        between("just above the neighbour below 1", 4, out, s, 0, s * ALL_NARROW, -24);
        between("just below the neighbour below 1", 5, out, s * ALL_NARROW, -24, s * (ALL_NARROW - 1), -24);
        between("halfway", 6, out, s * ((1L << 23) + 1), -23, s, 0);
    }

    private void between(String what, int a, boolean out, long outward, int outwardE, long inward, int inwardE) {
        done(what + ", outward", x -> x.step(7, a, out, true), 7, outward, outwardE, 0);
        done(what + ", inward", x -> x.step(7, a, !out, true), 7, inward, inwardE, 0);
    }

    private void needNotBeNarrowAtTheLeast(int s) {
        long least = 1L << 52;
        boolean out = s > 0;
        sentence("a need not be NARROW, at 2^-100, sign " + s);
        given(s * (least + 1), -152, s * (least + (1L << 29) - 1), -152, s * (least + (1L << 29) + 1), -152);
        between("just above 2^-100", 0, out, s * ((1L << 23) + 1), -123, s, -100);
        between("just below its neighbour", 1, out, s * ((1L << 23) + 1), -123, s, -100);
        between("just above its neighbour", 2, out, s * ((1L << 22) + 1), -122, s * ((1L << 23) + 1), -123);
    }

    private void needNotBeNarrowAtTheGreatest(int s) {
        long greatest = ALL_NARROW << 29;
        boolean out = s > 0;
        sentence("a need not be NARROW, at 2^100, sign " + s);
        given(s * (greatest - 1), 47, s * (greatest + 1), 47, s * ALL, 47, s * greatest, 47);
        between("just below the greatest NARROW one", 0, out, s * ALL_NARROW, 76, s * (ALL_NARROW - 1), 76);
        range("just above it, outward", x -> x.step(7, 1, out, true));
        done("just above it, inward", x -> x.step(7, 1, !out, true), 7, s * ALL_NARROW, 76, 0);
        range("the greatest, outward", x -> x.step(7, 2, out, true));
        done("the greatest, inward", x -> x.step(7, 2, !out, true), 7, s * ALL_NARROW, 76, 0);
        range("the greatest NARROW one, outward", x -> x.step(7, 3, out, true));
        done("the greatest NARROW one, outward in 53 bits", x -> x.step(7, 3, out, false), 7, s * (greatest + 1), 47, 0);
    }

    private void throughZero() {
        sentence("the least NUMBER greater than a, from below 0 to above it");
        for (boolean narrow : BOTH) {
            long half = halfOf(bitsOf(narrow));
            int place = -99 - bitsOf(narrow);
            long[] due = {-(half + 1), -half, 0, half, half + 1};
            RoundedNumbers x = new RoundedNumbers();
            RoundedNumbers y = new RoundedNumbers();
            x.set(0, -(half + 2), place);
            y.set(0, half + 2, place);
            for (long m : due) {
                int even = m == 0 ? 0 : Long.numberOfTrailingZeros(m);
                due("up", x.step(0, 0, true, narrow), RoundedNumbers.DONE);
                due("up, odd", x.odd(0), m >> even);
                due("up, exponent", x.exponent(0), m == 0 ? 0 : place + even);
                due("down", y.step(0, 0, false, narrow), RoundedNumbers.DONE);
                due("down, odd", y.odd(0), -(m >> even));
                due("down, exponent", y.exponent(0), m == 0 ? 0 : place + even);
            }
        }
    }
}
