import java.util.function.ToIntFunction;

/** What promises 7 and 8 have in common: the product and c at every distance, in 53 or in 24 bits. */
abstract class FuseTrial extends Trial {
    private final boolean narrow;
    private final int bits;
    private final ToIntFunction<RoundedNumbers> call;

    FuseTrial(boolean narrow) {
        this.narrow = narrow;
        bits = bitsOf(narrow);
        call = narrow ? x -> x.fuseNarrow(3, 0, 1, 2) : x -> x.fuse(3, 0, 1, 2);
    }

    final void everyDistance() {
        for (int s : SIGNS) {
            for (int c : new int[] {-100, -99, -1, 0, 46, 47, 75, 76, 98, 99}) {
                for (int product = -200; product <= 198; product++) {
                    sameSigns(s, product, c);
                    oppositeSigns(s, product, c);
                }
            }
        }
    }

    /** 2^product + 2^c. */
    private void sameSigns(int s, int product, int c) {
        int apart = Math.abs(product - c);
        boolean exact = apart < bits;
        long m = exact ? (1L << apart) + 1 : 1;
        int e = exact ? Math.min(product, c) : Math.max(product, c);
        fused(s, product, s, c, s * m, e, exact ? 0 : -s);
    }

    /** 2^product - 2^c. */
    private void oppositeSigns(int s, int product, int c) {
        int apart = Math.abs(product - c);
        boolean exact = apart <= bits;
        int sign = product < c ? -s : s;
        long m = exact ? (1L << apart) - 1 : 1;
        int e = exact ? Math.min(product, c) : Math.max(product, c);
        fused(s, product, -s, c, sign * m, e, exact ? 0 : sign);
    }

    private void fused(int s, int product, int t, int c, long m, int e, int lost) {
        String what = s + " * 2^" + product + " and " + t + " * 2^" + c;
        int top = e + 63 - Long.numberOfLeadingZeros(Math.abs(m));
        sentence("the product of a and b, plus c, " + (narrow ? "fuseNarrow" : "fuse"));
        given(1, Math.floorDiv(product, 2), s, product - Math.floorDiv(product, 2), t, c);
        if (m != 0 && (top < -100 || top > 99)) {
            range(what, call);
        } else {
            done(what, call, 3, m, e, lost);
        }
    }

    final void withZero() {
        sentence("with 0, " + (narrow ? "fuseNarrow" : "fuse"));
        long all = allOf(bits);
        for (int s : SIGNS) {
            given(0, 0, s * all, 100 - bits, s, -100);
            done("0 by the greatest, plus the least", call, 3, s, -100, 0);
            given(s, -100, 0, 0, s * all, 100 - bits);
            done("the least by 0, plus the greatest", call, 3, s * all, 100 - bits, 0);
            given(0, 0, 0, 0, s, 99);
            done("0 by 0, plus 2^99", call, 3, s, 99, 0);
            given(s, 0, 5, 0, 0, 0);
            done("5, plus 0", call, 3, 5 * s, 0, 0);
            given(0, 0, 0, 0, 0, 0);
            done("0", call, 3, 0, 0, 0);
            given(s * 5, 0, 5, 0, -s * 25, 0);
            done("25 less 25", call, 3, 0, 0, 0);
        }
    }

    /** The square of 2^n + 1 less 2^2n + 2^(n+1): only the 1 is left, that a rounded product has not. */
    final void onlyTheLastBitIsLeft() {
        sentence("rounded just once, " + (narrow ? "fuseNarrow" : "fuse"));
        int n = bits / 2 + 1;
        long factor = (1L << n) + 1;
        for (int s : SIGNS) {
            given(factor, 0, s * factor, 0, -s * ((1L << (n - 1)) + 1), n + 1);
            done("(2^n + 1)^2", call, 3, s, 0, 0);
        }
    }
}
