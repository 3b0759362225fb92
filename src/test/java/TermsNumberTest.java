import java.util.function.ToIntFunction;

/**
 * Terms, NUMBER: "with a size of at least 2^-100 and below 2^100", for every call that puts one into a register, at
 * both ends and on both sides of them; WIDE and NARROW; "0 is, too"; "There is just one 0, without a sign".
 */
public final class TermsNumberTest extends Trial {
    public static void main(String[] args) {
        new TermsNumberTest().run();
    }

    @Override
    void sentences() {
        for (int sign : SIGNS) {
            promise02SetEnds(sign);
            promise10RemainderEnds(sign);
            promise11CopyEnds(sign);
            promise11CopyToNarrowEnds(sign);
            promise12ScaleEnds(sign);
            promise13StepEnds(sign);
            for (boolean narrow : BOTH) {
                promise03And04SumEnds(sign, narrow, false);
                promise03And04SumEnds(sign, narrow, true);
                promise05MultiplyEnds(sign, narrow);
                promise05MultiplyRoundedToTheEnds(sign, narrow);
                promise06DivideEnds(sign, narrow);
                promise06DivideRoundedAtTheEnds(sign, narrow);
                promise07And08FuseLeast(sign, narrow);
                promise07And08FuseGreatest(sign, narrow);
            }
        }
        promise09RootOfTheEnds();
        zeroIsNotOutOfRange();
        notZeroIsNeverRoundedToZero();
        justOneZero();
        narrowHas24Bits();
    }

    private void promise02SetEnds(int s) {
        sentence("size of at least 2^-100 and below 2^100, set, sign " + s);
        given();
        doneBySet("2^-100", x -> x.set(3, s, -100), 3, s, -100);
        doneBySet("2^-100 with 53 bits", x -> x.set(3, s * (1L << 52), -152), 3, s, -100);
        range("just below 2^-100", x -> x.set(3, s * ALL, -153));
        range("2^-101", x -> x.set(3, s, -101));
        range("just below 2^-100, by a longer step", x -> x.set(3, s * ((1L << 52) - 1), -152));
        doneBySet("just above 2^-100", x -> x.set(3, s * ((1L << 52) + 1), -152), 3, s * ((1L << 52) + 1), -152);
        doneBySet("just below 2^100", x -> x.set(3, s * ALL, 47), 3, s * ALL, 47);
        doneBySet("2^99", x -> x.set(3, s, 99), 3, s, 99);
        range("2^100", x -> x.set(3, s, 100));
        range("2^100 with 53 bits", x -> x.set(3, s * (1L << 52), 48));
        range("just above 2^100", x -> x.set(3, s * ((1L << 52) + 1), 48));
    }

    /** add and subtract alike: the sign of b makes the difference. */
    private void promise03And04SumEnds(int s, boolean narrow, boolean less) {
        int bits = bitsOf(narrow);
        long all = allOf(bits);
        long half = halfOf(bits);
        int t = less ? -s : s;
        ToIntFunction<RoundedNumbers> call = x -> less ? x.subtract(3, 0, 1, narrow) : x.add(3, 0, 1, narrow);
        sentence("size of at least 2^-100 and below 2^100, " + (less ? "subtract, " : "add, ") + bits + " bits, sign " + s);
        given(3 * s, -100, -2 * t, -100);
        done("2^-100", call, 3, s, -100, 0);
        given(s * all, -99 - bits, -t, -100);
        range("just below 2^-100", call);
        given(s * (half + 1), -99 - bits, -t, -100);
        range("one place of 2^-100", call);
        given(s * (half + 1), -98 - bits, -t * (half + 1), -99 - bits);
        done("just above 2^-100", call, 3, s * (half + 1), -99 - bits, 0);
        given(s, 99, t * (half - 1), 100 - bits);
        done("just below 2^100", call, 3, s * all, 100 - bits, 0);
        given(s, 99, t, 99);
        range("2^100", call);
        given(s, 99, t * (half + 2), 100 - bits);
        range("just above 2^100", call);
        given(s * all, 100 - bits, t, 99 - bits);
        range("a tie, rounded to 2^100", call);
        given(s * all, 100 - bits, t * all, 99 - 2 * bits);
        done("just below that tie", call, 3, s * all, 100 - bits, -s);
        given(s * all, 100 - bits, t * (half + 1), 100 - 2 * bits);
        range("just above that tie", call);
    }

    private void promise05MultiplyEnds(int s, boolean narrow) {
        int bits = bitsOf(narrow);
        long all = allOf(bits);
        long half = halfOf(bits);
        ToIntFunction<RoundedNumbers> call = x -> x.multiply(3, 0, 1, narrow);
        sentence("size of at least 2^-100 and below 2^100, multiply, " + bits + " bits, sign " + s);
        given(1, -50, s, -50);
        done("2^-100", call, 3, s, -100, 0);
        given(s * all, -50 - bits, 1, -50);
        range("just below 2^-100", call);
        given(s * (half + 1), -49 - bits, 1, -50);
        done("just above 2^-100", call, 3, s * (half + 1), -99 - bits, 0);
        given(s * all, 50 - bits, 1, 50);
        done("just below 2^100", call, 3, s * all, 100 - bits, 0);
        given(-1, 50, -s, 50);
        range("2^100", call);
        given(s * (half + 1), 51 - bits, 1, 50);
        range("just above 2^100", call);
        given(1, -100, s, -100);
        range("the least product", call);
        given(all, 100 - bits, s * all, 100 - bits);
        range("the greatest product", call);
    }

    /** Products of 2^(bits+1) - 1, 2^(bits+2) - 3 and 2^(bits+2) - 1: a tie below a power of 2, and its two sides. */
    private void promise05MultiplyRoundedToTheEnds(int s, boolean narrow) {
        int bits = bitsOf(narrow);
        long[] tie = narrow ? new long[] {1801, 18631} : new long[] {134217727, 134217729};
        long[] below = narrow ? new long[] {5197, 12913} : new long[] {28922735, 1245691219};
        long[] above = narrow ? new long[] {8191, 8193} : new long[] {177927641, 202491287};
        ToIntFunction<RoundedNumbers> call = x -> x.multiply(3, 0, 1, narrow);
        sentence("what comes out has that size, multiply, " + bits + " bits, sign " + s);
        given(tie[0], -50, s * tie[1], -51 - bits);
        done("a tie, rounded up to 2^-100", call, 3, s, -100, s);
        given(below[0], -50, s * below[1], -52 - bits);
        range("just below that tie", call);
        given(above[0], -50, s * above[1], -52 - bits);
        done("just above that tie", call, 3, s, -100, s);
        given(tie[0], 50, s * tie[1], 49 - bits);
        range("a tie, rounded up to 2^100", call);
        given(below[0], 50, s * below[1], 48 - bits);
        done("just below that tie to 2^100", call, 3, s * allOf(bits), 100 - bits, -s);
        given(above[0], 50, s * above[1], 48 - bits);
        range("just above that tie to 2^100", call);
    }

    private void promise06DivideEnds(int s, boolean narrow) {
        int bits = bitsOf(narrow);
        long all = allOf(bits);
        long half = halfOf(bits);
        ToIntFunction<RoundedNumbers> call = x -> x.divide(3, 0, 1, narrow);
        sentence("size of at least 2^-100 and below 2^100, divide, " + bits + " bits, sign " + s);
        given(s, -100, 1, 0);
        done("2^-100", call, 3, s, -100, 0);
        given(s * all, -50 - bits, 1, 50);
        range("just below 2^-100", call);
        given(s * (half + 1), -49 - bits, 1, 50);
        done("just above 2^-100", call, 3, s * (half + 1), -99 - bits, 0);
        given(s * all, 99 - bits, 1, -1);
        done("just below 2^100", call, 3, s * all, 100 - bits, 0);
        given(s, 99, 1, -1);
        range("2^100", call);
        given(s * (half + 1), 100 - bits, 1, -1);
        range("just above 2^100", call);
        given(1, -100, s * all, 100 - bits);
        range("the least quotient", call);
        given(all, 100 - bits, s, -100);
        range("the greatest quotient", call);
    }

    /** (all - 1) / all and (all + 1) / all are the quotients nearest to 1. */
    private void promise06DivideRoundedAtTheEnds(int s, boolean narrow) {
        int bits = bitsOf(narrow);
        long all = allOf(bits);
        ToIntFunction<RoundedNumbers> call = x -> x.divide(3, 0, 1, narrow);
        sentence("what comes out has that size, divide, " + bits + " bits, sign " + s);
        given(s * (all - 1), -100, all, 0);
        range("rounded to just below 2^-100", call);
        given(s * all, -100, all, 0);
        done("2^-100", call, 3, s, -100, 0);
        given(s, bits - 100, all, 0);
        done("rounded to just above 2^-100", call, 3, s * (halfOf(bits) + 1), -99 - bits, s);
        given(s * (all - 1), 100 - bits, all, -bits);
        done("rounded to just below 2^100", call, 3, s * all, 100 - bits, s);
        given(s * all, 100 - bits, all, -bits);
        range("2^100", call);
        given(s, 99, all, -1 - bits);
        range("rounded to just above 2^100", call);
    }

    private static int fused(RoundedNumbers x, boolean narrow) {
        return narrow ? x.fuseNarrow(3, 0, 1, 2) : x.fuse(3, 0, 1, 2);
    }

    private void promise07And08FuseLeast(int s, boolean narrow) {
        int bits = bitsOf(narrow);
        long all = allOf(bits);
        long half = halfOf(bits);
        long[] tie = narrow ? new long[] {8191, 8193} : new long[] {177927641, 202491287};
        long[] below = narrow ? new long[] {4325, 31033} : new long[] {128178107, 562167719};
        long[] above = narrow ? new long[] {511, 262657} : new long[] {268435455, 268435457};
        ToIntFunction<RoundedNumbers> call = x -> fused(x, narrow);
        sentence("size of at least 2^-100, " + (narrow ? "fuseNarrow" : "fuse") + ", sign " + s);
        given(s, -50, 1, -50, 0, 0);
        done("2^-100", call, 3, s, -100, 0);
        given(s * all, -50 - bits, 1, -50, 0, 0);
        range("just below 2^-100", call);
        given(s * (half + 1), -49 - bits, 1, -50, 0, 0);
        done("just above 2^-100", call, 3, s * (half + 1), -99 - bits, 0);
        given(s, -100, 1, -1, s, -100);
        done("the product alone is too small", call, 3, 3 * s, -101, 0);
        given(s, -100, 1, -1, -s, -100);
        range("what is left is too small", call);
        given(s, -99, 1, 0, -s, -100);
        done("2^-100 is left", call, 3, s, -100, 0);
        given(tie[0], -50, s * tie[1], -51 - bits, -s, -100);
        done("a tie, rounded up to 2^-100", call, 3, s, -100, s);
        given(below[0], -50, s * below[1], -52 - bits, -s, -100);
        range("just below that tie", call);
        given(above[0], -50, s * above[1], -52 - bits, -s, -100);
        done("just above that tie", call, 3, s, -100, s);
    }

    private void promise07And08FuseGreatest(int s, boolean narrow) {
        int bits = bitsOf(narrow);
        long all = allOf(bits);
        long half = halfOf(bits);
        ToIntFunction<RoundedNumbers> call = x -> fused(x, narrow);
        sentence("size below 2^100, " + (narrow ? "fuseNarrow" : "fuse") + ", sign " + s);
        given(s * all, 50 - bits, 1, 50, 0, 0);
        done("just below 2^100", call, 3, s * all, 100 - bits, 0);
        given(s, 50, 1, 50, 0, 0);
        range("2^100", call);
        given(s * (half + 1), 51 - bits, 1, 50, 0, 0);
        range("just above 2^100", call);
        given(s, 50, 1, 50, -s, 99);
        done("the product alone is too great", call, 3, s, 99, 0);
        given(s, 50, 1, 50, -s, 100 - bits);
        done("2^100 less one place", call, 3, s * all, 100 - bits, 0);
        given(s, 50, 1, 50, -s, 99 - bits);
        range("a tie, rounded up to 2^100", call);
        given(s, 50, 1, 50, -s * (half + 1), 100 - 2 * bits);
        done("just below that tie", call, 3, s * all, 100 - bits, -s);
        given(s, 50, 1, 50, -s * all, 99 - 2 * bits);
        range("just above that tie", call);
        given(s, 50, 1, 50, -s, -100);
        range("2^100 less the least size", call);
        given(s, 50, 1, 50, s, -100);
        range("2^100 and the least size", call);
        given(s, 99, 1, 99, -s * all, 100 - bits);
        range("2^198 less the greatest size", call);
    }

    /** A root is far from both ends, whatever it is taken of. */
    private void promise09RootOfTheEnds() {
        sentence("size of at least 2^-100 and below 2^100, root");
        for (boolean narrow : BOTH) {
            int bits = bitsOf(narrow);
            given(1, -100);
            done("of 2^-100", x -> x.root(3, 0, narrow), 3, 1, -50, 0);
            given(allOf(bits), 100 - bits);
            done("of the greatest", x -> x.root(3, 0, narrow), 3, allOf(bits), 50 - bits, -1);
        }
    }

    /** It is never greater than what it is taken of, so the upper end is only that of a itself. */
    private void promise10RemainderEnds(int s) {
        ToIntFunction<RoundedNumbers> call = x -> x.remainder(3, 0, 1);
        sentence("size of at least 2^-100 and below 2^100, remainder, sign " + s);
        given(3 * s, -100, 2, -100);
        done("2^-100", call, 3, s, -100, 0);
        given(s * ALL, -152, 1, -100);
        range("just below 2^-100", call);
        given(s * ((1L << 52) + 1), -152, 1, -100);
        range("one place of 2^-100", call);
        given(s * ((1L << 51) + 1), -150, (1L << 52) + 3, -152);
        done("just above 2^-100", call, 3, s * ((1L << 52) + 1), -152, 0);
        given(s * (ALL - 2), 47, ALL, 47);
        done("near 2^100", call, 3, s * (ALL - 2), 47, 0);
        given(s * ALL, 47, ALL, 47);
        done("0 from the greatest", call, 3, 0, 0, 0);
    }

    private void promise11CopyEnds(int s) {
        ToIntFunction<RoundedNumbers> call = x -> x.copy(3, 0, false);
        sentence("size of at least 2^-100 and below 2^100, copy, sign " + s);
        given(s, -100);
        done("2^-100", call, 3, s, -100, 0);
        given(s * ((1L << 52) + 1), -152);
        done("just above 2^-100", call, 3, s * ((1L << 52) + 1), -152, 0);
        given(s * ALL, 47);
        done("just below 2^100", call, 3, s * ALL, 47, 0);
    }

    private void promise11CopyToNarrowEnds(int s) {
        ToIntFunction<RoundedNumbers> call = x -> x.copy(3, 0, true);
        long tie = ((1L << 25) - 1) << 28;
        sentence("size of at least 2^-100 and below 2^100, copy to 24 bits, sign " + s);
        given(s, -100);
        done("2^-100", call, 3, s, -100, 0);
        given(s * ((1L << 52) + 1), -152);
        done("just above 2^-100", call, 3, s, -100, -s);
        given(s * ALL_NARROW, 76);
        done("just below 2^100 with 24 bits", call, 3, s * ALL_NARROW, 76, 0);
        given(s * (tie - 1), 47);
        done("just below the tie", call, 3, s * ALL_NARROW, 76, -s);
        given(s * tie, 47);
        range("the tie, rounded to 2^100", call);
        given(s * (tie + 1), 47);
        range("just above the tie", call);
        given(s * ALL, 47);
        range("just below 2^100", call);
    }

    private void promise12ScaleEnds(int s) {
        sentence("size of at least 2^-100 and below 2^100, scale, sign " + s);
        given(s, 0, s * ALL, 0, s * ((1L << 52) + 1), 0);
        done("2^-100", x -> x.scale(3, 0, -100), 3, s, -100, 0);
        range("2^-101", x -> x.scale(3, 0, -101));
        range("just below 2^-100", x -> x.scale(3, 1, -153));
        done("twice as much", x -> x.scale(3, 1, -152), 3, s * ALL, -152, 0);
        done("just above 2^-100", x -> x.scale(3, 2, -152), 3, s * ((1L << 52) + 1), -152, 0);
        range("half as much", x -> x.scale(3, 2, -153));
        done("2^99", x -> x.scale(3, 0, 99), 3, s, 99, 0);
        range("2^100", x -> x.scale(3, 0, 100));
        done("just below 2^100", x -> x.scale(3, 1, 47), 3, s * ALL, 47, 0);
        range("twice as much again", x -> x.scale(3, 1, 48));
        range("just above 2^100", x -> x.scale(3, 2, 48));
        done("half as much again", x -> x.scale(3, 2, 47), 3, s * ((1L << 52) + 1), 47, 0);
    }

    private void promise13StepEnds(int s) {
        sentence("size of at least 2^-100 and below 2^100, step, sign " + s);
        for (boolean narrow : BOTH) {
            int bits = bitsOf(narrow);
            long all = allOf(bits);
            boolean out = s > 0;
            given(s * (halfOf(bits) + 1), -99 - bits, s, -100, s * (all - 1), 100 - bits, s * all, 100 - bits);
            done("inward to 2^-100", x -> x.step(7, 0, !out, narrow), 7, s, -100, 0);
            done("inward from 2^-100", x -> x.step(7, 1, !out, narrow), 7, 0, 0, 0);
            done("outward from 2^-100", x -> x.step(7, 1, out, narrow), 7, s * (halfOf(bits) + 1), -99 - bits, 0);
            done("outward to the greatest", x -> x.step(7, 2, out, narrow), 7, s * all, 100 - bits, 0);
            range("outward from the greatest", x -> x.step(7, 3, out, narrow));
        }
    }

    private void zeroIsNotOutOfRange() {
        sentence("if what comes out is not 0");
        given(0, 0, 5, 0, -5, 0);
        doneBySet("set", x -> x.set(3, 0, 250), 3, 0, 0);
        for (boolean narrow : BOTH) {
            done("add", x -> x.add(3, 1, 2, narrow), 3, 0, 0, 0);
            done("add two 0", x -> x.add(3, 0, 0, narrow), 3, 0, 0, 0);
            done("subtract", x -> x.subtract(3, 2, 2, narrow), 3, 0, 0, 0);
            done("multiply", x -> x.multiply(3, 0, 2, narrow), 3, 0, 0, 0);
            done("divide", x -> x.divide(3, 0, 2, narrow), 3, 0, 0, 0);
            done("root", x -> x.root(3, 0, narrow), 3, 0, 0, 0);
            done("copy", x -> x.copy(3, 0, narrow), 3, 0, 0, 0);
        }
        done("fuse", x -> x.fuse(3, 0, 1, 0), 3, 0, 0, 0);
        done("fuseNarrow", x -> x.fuseNarrow(3, 0, 1, 0), 3, 0, 0, 0);
        done("remainder", x -> x.remainder(3, 1, 2), 3, 0, 0, 0);
        done("remainder of 0", x -> x.remainder(3, 0, 2), 3, 0, 0, 0);
        done("scale", x -> x.scale(3, 0, 500), 3, 0, 0, 0);
        given(5, 0, 1, 0, -25, 0);
        done("fuse that leaves 0", x -> x.fuse(3, 0, 0, 2), 3, 0, 0, 0);
        done("fuseNarrow that leaves 0", x -> x.fuseNarrow(3, 0, 0, 2), 3, 0, 0, 0);
    }

    private void notZeroIsNeverRoundedToZero() {
        sentence("ROUNDING: Sizes have no limits in this");
        given(1, -100, ALL_NARROW, 76, 0, 0);
        for (boolean narrow : BOTH) {
            range("2^-200 by multiply", x -> x.multiply(3, 0, 0, narrow));
            range("some 2^-200 by divide", x -> x.divide(3, 0, 1, narrow));
            range("some 2^200 by multiply", x -> x.multiply(3, 1, 1, narrow));
            range("some 2^200 by divide", x -> x.divide(3, 1, 0, narrow));
        }
        range("2^-200 by fuse", x -> x.fuse(3, 0, 0, 2));
        range("2^-200 by fuseNarrow", x -> x.fuseNarrow(3, 0, 0, 2));
        range("2^-600 by scale", x -> x.scale(3, 0, -500));
        range("some 2^600 by scale", x -> x.scale(3, 1, 500));
    }

    private void justOneZero() {
        sentence("There is just one 0, without a sign");
        zero("set", x -> x.set(5, -0L, -7));
        zero("add", x -> x.add(5, 0, 2, false));
        zero("subtract", x -> x.subtract(5, 0, 0, false));
        zero("subtract 0 from 0", x -> x.subtract(5, 1, 1, true));
        zero("multiply", x -> x.multiply(5, 0, 1, false));
        zero("divide", x -> x.divide(5, 1, 0, false));
        zero("fuse", x -> x.fuse(5, 0, 2, 4));
        zero("fuseNarrow", x -> x.fuseNarrow(5, 0, 1, 1));
        zero("root", x -> x.root(5, 1, false));
        zero("remainder", x -> x.remainder(5, 0, 2));
        zero("copy", x -> x.copy(5, 1, true));
        zero("scale", x -> x.scale(5, 1, -500));
        zero("step", x -> x.step(5, 3, true, false));
    }

    private void zero(String what, ToIntFunction<RoundedNumbers> call) {
        RoundedNumbers x = new RoundedNumbers();
        x.set(0, -3, 0);
        x.set(2, 3, 0);
        x.set(3, -1, -100);
        x.set(4, 9, 0);
        x.set(5, 7, 7);
        due(what, call.applyAsInt(x), RoundedNumbers.DONE);
        due(what + ", odd", x.odd(5), 0);
        due(what + ", exponent", x.exponent(5), 0);
        due(what + ", compared with 0", x.compare(5, 1), 0);
        due(what + ", whole", x.whole(5, true), 0);
        due(what + ", as the cube root of 0", x.cubeRoot(1, 5), 1);
    }

    private void narrowHas24Bits() {
        sentence("NARROW if some such M has a size below 2^24 (0 is, too)");
        long[] narrow = {0, 1, ALL_NARROW - 1, ALL_NARROW, 1L << 24, (1L << 25) - 2, (1L << 24) + 2, ALL_NARROW << 29, 1L << 52};
        long[] wide = {(1L << 24) + 1, (1L << 25) - 1, (1L << 25) + 2, ((1L << 25) - 1) << 28, ALL, (1L << 52) + 1};
        for (int s : SIGNS) {
            for (int e : new int[] {-100, -3, 0, 40}) {
                for (long m : narrow) {
                    oneRegister(s * m, e, 8);
                }
                for (long m : wide) {
                    oneRegister(s * m, e, 7);
                }
            }
        }
    }

    private void oneRegister(long m, int e, int due) {
        for (int r = 0; r < 8; r++) {
            RoundedNumbers x = new RoundedNumbers();
            due("set " + m + " * 2^" + e, x.set(r, m, e), RoundedNumbers.DONE);
            due("count(1) with " + m + " * 2^" + e, x.count(1), due);
        }
    }
}
