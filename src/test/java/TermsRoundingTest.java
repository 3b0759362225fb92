import java.util.function.ToIntFunction;

/**
 * Terms, ROUNDING: the nearest one, "of two equally near ones the one whose M is even", for every OPERATION that can
 * be between two numbers: at a tie and just beside it, with the even one below, above, and at a power of 2.
 * LOST is checked with each: less than, the same as, greater than the real one.
 */
public final class TermsRoundingTest extends Trial {
    public static void main(String[] args) {
        new TermsRoundingTest().run();
    }

    @Override
    void sentences() {
        for (int sign : SIGNS) {
            promise11CopyToNarrow(sign);
            for (boolean narrow : BOTH) {
                promise03And04Sum(sign, narrow, false);
                promise03And04Sum(sign, narrow, true);
                promise03And04SumAtAPowerOfTwo(sign, narrow, false);
                promise03And04SumAtAPowerOfTwo(sign, narrow, true);
                promise05Multiply(sign, narrow);
                promise06Divide(sign, narrow);
                promise07And08Fuse(sign, narrow);
                promise07And08FuseBesideATie(sign, narrow);
            }
        }
        promise09Root();
        promise09RootNarrow();
    }

    private void promise03And04Sum(int s, boolean narrow, boolean less) {
        int bits = bitsOf(narrow);
        long all = allOf(bits);
        long half = halfOf(bits);
        int t = less ? -s : s;
        ToIntFunction<RoundedNumbers> call = x -> less ? x.subtract(3, 0, 1, narrow) : x.add(3, 0, 1, narrow);
        sentence("two equally near ones, " + (less ? "subtract, " : "add, ") + bits + " bits, sign " + s);
        given(s, bits, t, 0);
        done("a tie, the even one below", call, 3, s, bits, -s);
        given(s, bits, t * all, -bits);
        done("just below it", call, 3, s, bits, -s);
        given(s, bits, t * (half + 1), 1 - bits);
        done("just above it", call, 3, s * (half + 1), 1, s);
        given(s, bits, t, 1);
        done("exact", call, 3, s * (half + 1), 1, 0);
        given(s * (half + 1), 1, t, 0);
        done("a tie, the even one above", call, 3, s * (half + 2), 1, s);
        given(s * (half + 1), 1, t * all, -bits);
        done("just below that", call, 3, s * (half + 1), 1, -s);
        given(s * (half + 1), 1, t * (half + 1), 1 - bits);
        done("just above that", call, 3, s * (half + 2), 1, s);
    }

    private void promise03And04SumAtAPowerOfTwo(int s, boolean narrow, boolean less) {
        int bits = bitsOf(narrow);
        long all = allOf(bits);
        long half = halfOf(bits);
        int t = less ? -s : s;
        ToIntFunction<RoundedNumbers> call = x -> less ? x.subtract(3, 0, 1, narrow) : x.add(3, 0, 1, narrow);
        sentence("two equally near ones, " + (less ? "subtract, " : "add, ") + bits + " bits, sign " + s);
        given(s * all, 0, t, -1);
        done("a tie, the power of 2 above", call, 3, s, bits, s);
        given(s * all, 0, t * all, -1 - bits);
        done("just below it", call, 3, s * all, 0, -s);
        given(s * all, 0, t * (half + 1), -bits);
        done("just above it", call, 3, s, bits, s);
        given(s, bits + 1, -t, 0);
        done("that tie from the other side", call, 3, s, bits + 1, s);
        given(s, bits + 1, -t * all, -bits);
        done("just above that", call, 3, s, bits + 1, s);
        given(s, bits + 1, -t * (half + 1), 1 - bits);
        done("just below that", call, 3, s * all, 1, -s);
    }

    /** Rows of two factors and of what their product is rounded to: m, e and LOST. */
    private static long[][] products(boolean narrow) {
        long half = halfOf(bitsOf(narrow));
        long all = allOf(bitsOf(narrow));
        long[][] factors = narrow
            ? new long[][] {{673, 24929}, {1549, 10831}, {1801, 18631}, {4051, 8283}, {5, 6710887}, {133, 252289},
                {27, 1242757}, {5197, 12913}, {8191, 8193}}
            : new long[][] {{321, 28059810762433L}, {456995, 19709623201L}, {134217727, 134217729},
                {134201345, 134234113}, {1422061, 12667809967L}, {3, 6004799503160663L}, {29, 621186155499379L},
                {28922735, 1245691219}, {177927641, 202491287}};
        // 2^bits + 1 and + 3, 2^(bits+1) - 1, + 1, + 3, + 5 and + 7, 2^(bits+2) - 3 and - 1.
        long[][] due = {{half, 1, -1}, {half + 2, 1, 1}, {half, 2, 1}, {half, 2, -1}, {half + 1, 2, 1},
            {half + 1, 2, -1}, {half + 2, 2, 1}, {all, 2, -1}, {half, 3, 1}};
        long[][] rows = new long[due.length][];
        for (int i = 0; i < due.length; i++) {
            rows[i] = new long[] {factors[i][0], factors[i][1], due[i][0], due[i][1], due[i][2]};
        }
        return rows;
    }

    private void promise05Multiply(int s, boolean narrow) {
        sentence("two equally near ones, multiply, " + bitsOf(narrow) + " bits, sign " + s);
        for (long[] row : products(narrow)) {
            given(s * row[0], 0, row[1], 0);
            done(row[0] + " * " + row[1], x -> x.multiply(3, 0, 1, narrow), 3, s * row[2], (int) row[3], s * (int) row[4]);
            given(row[0], 0, s * row[1], 0);
            done(row[0] + " * " + row[1], x -> x.multiply(3, 1, 0, narrow), 3, s * row[2], (int) row[3], s * (int) row[4]);
        }
        given(s * ((1L << 11) - 1), 0, (1L << 11) + 1, 0);
        done("exact", x -> x.multiply(3, 0, 1, narrow), 3, s * ((1L << 22) - 1), 0, 0);
    }

    /**
     * A quotient is never a tie. Rows of a, b, y and k with a * 2^k = y * b - 1 or + 1: the odd y has one bit too
     * many, so the quotient is just below or just above a tie.
     */
    private void promise06Divide(int s, boolean narrow) {
        long[][] below = narrow
            ? new long[][] {{9192532, 11911065, 25896105, 25}, {11388697, 9963311, 19177423, 24}}
            : new long[][] {{7502388351855802L, 5072019339966345L, 13323195800759993L, 53},
                {7916779364452459L, 8757210249408839L, 16285553768966263L, 54}};
        long[][] above = narrow
            ? new long[][] {{9250618, 9963311, 31154225, 25}, {9353483, 16573485, 18936923, 25}}
            : new long[][] {{7808974997451129L, 7922871638530103L, 17755429340865145L, 54},
                {7713669668043233L, 5072019339966345L, 13698401963462983L, 53}};
        sentence("the nearest one, divide, " + bitsOf(narrow) + " bits, sign " + s);
        for (long[] row : below) {
            given(s * row[0], 0, row[1], 0);
            done("just below a tie", x -> x.divide(3, 0, 1, narrow), 3, s * (row[2] - 1) / 2, 1 - (int) row[3], -s);
        }
        for (long[] row : above) {
            given(row[0], 0, s * row[1], 0);
            done("just above a tie", x -> x.divide(3, 0, 1, narrow), 3, s * (row[2] + 1) / 2, 1 - (int) row[3], s);
        }
        given(21, 0, s * 7, 0);
        done("exact", x -> x.divide(3, 0, 1, narrow), 3, s * 3, 0, 0);
    }

    private static int fused(RoundedNumbers x, boolean narrow) {
        return narrow ? x.fuseNarrow(3, 0, 1, 2) : x.fuse(3, 0, 1, 2);
    }

    private void promise07And08Fuse(int s, boolean narrow) {
        ToIntFunction<RoundedNumbers> call = x -> fused(x, narrow);
        sentence("two equally near ones, " + (narrow ? "fuseNarrow" : "fuse") + ", sign " + s);
        for (long[] row : products(narrow)) {
            given(s * row[0], 0, row[1], 0, 0, 0);
            done(row[0] + " * " + row[1], call, 3, s * row[2], (int) row[3], s * (int) row[4]);
        }
        int bits = bitsOf(narrow);
        long half = halfOf(bits);
        given(s, 0, 1, 0, s, bits);
        done("a tie, the even one below", call, 3, s, bits, -s);
        given(s, 0, 1, 0, s * (half + 1), 1);
        done("a tie, the even one above", call, 3, s * (half + 2), 1, s);
        given(-s, 0, 1, 0, s, bits + 1);
        done("a tie, the power of 2 above", call, 3, s, bits + 1, s);
        given(s, 0, 1, 0, s, 1);
        done("exact", call, 3, 3 * s, 0, 0);
    }

    /** What lies beside the tie is beyond the bits of the product, or as far below it as can be. */
    private void promise07And08FuseBesideATie(int s, boolean narrow) {
        ToIntFunction<RoundedNumbers> call = x -> fused(x, narrow);
        int bits = bitsOf(narrow);
        long half = halfOf(bits);
        long[] less = narrow ? new long[] {1801, 18631} : new long[] {134217727, 134217729};
        long[] more = narrow ? new long[] {4051, 8283} : new long[] {134201345, 134234113};
        long[] down = narrow ? new long[] {673, 24929} : new long[] {321, 28059810762433L};
        long[] up = narrow ? new long[] {1549, 10831} : new long[] {456995, 19709623201L};
        sentence("rounded just once, " + (narrow ? "fuseNarrow" : "fuse") + ", sign " + s);
        given(s * less[0], 0, less[1], -1 - bits, s * (half + 1), 1);
        done("just below a tie", call, 3, s * (half + 1), 1, -s);
        given(s * more[0], 0, more[1], -1 - bits, s, bits);
        done("just above a tie", call, 3, s * (half + 1), 1, s);
        given(s * down[0], 0, down[1], 0, -s, -100);
        done("2^-100 below a tie, the even one below", call, 3, s, bits, -s);
        given(s * down[0], 0, down[1], 0, s, -100);
        done("2^-100 above that", call, 3, s * (half + 1), 1, s);
        given(s * up[0], 0, up[1], 0, -s, -100);
        done("2^-100 below a tie, the even one above", call, 3, s * (half + 1), 1, -s);
        given(s * up[0], 0, up[1], 0, s, -100);
        done("2^-100 above that again", call, 3, s * (half + 2), 1, s);
        given(s, -100, 1, -100, s, 99);
        done("2^-200 above a number", call, 3, s, 99, -s);
        given(-s, -100, 1, -100, s, 99);
        done("2^-200 below a number", call, 3, s, 99, s);
    }

    /** A root is never a tie, but may be very near to one: rows of m, e and what it is rounded to, with LOST. */
    private void promise09Root() {
        long n = 94906265;
        long[][] rows = {{8233674359446949L, 0, (12178862471855947L + 1) / 2, -26, 1}, {(1L << 52) + 1, 0, 1, 26, -1},
            {ALL, 1, ALL, -26, -1}, {n * n, 0, n, 0, 0}, {n * n - 1, 0, n, 0, 1}, {n * n + 1, 0, n, 0, -1}};
        sentence("the nearest one, root, 53 bits");
        roots(rows, false);
    }

    private void promise09RootNarrow() {
        long n = 4095;
        long[][] rows = {{16519498, 25, (23543627 + 1) / 2, 1, 1}, {(1L << 23) + 1, 25, 1, 24, -1},
            {ALL_NARROW, 24, ALL_NARROW, 0, -1}, {n * n, 0, n, 0, 0}, {n * n - 1, 0, (n << 12) - 1, -12, -1},
            {n * n + 1, 0, (n << 12) + 1, -12, 1}};
        sentence("the nearest one, root, 24 bits");
        roots(rows, true);
    }

    /** Each also 2^40 times as great and 2^-100 times. */
    private void roots(long[][] rows, boolean narrow) {
        for (long[] row : rows) {
            for (int by : new int[] {0, 20, -50}) {
                given(row[0], row[1] + 2 * by);
                done("of " + row[0] + " * 2^" + (row[1] + 2 * by), x -> x.root(3, 0, narrow), 3, row[2], (int) row[3] + by, (int) row[4]);
            }
        }
    }

    private void promise11CopyToNarrow(int s) {
        ToIntFunction<RoundedNumbers> call = x -> x.copy(3, 0, true);
        long half = 1L << 23;
        long[][] rows = {{(1L << 24) + 1, half, 1, -1}, {(1L << 24) + 3, half + 2, 1, 1}, {(1L << 25) - 1, half, 2, 1}};
        long[][] below = {{half, 1, -1}, {half + 1, 1, -1}, {ALL_NARROW, 1, -1}};
        long[][] above = {{half + 1, 1, 1}, {half + 2, 1, 1}, {half, 2, 1}};
        sentence("two equally near ones, copy to 24 bits, sign " + s);
        for (int i = 0; i < 3; i++) {
            long tie = rows[i][0] << 28;
            given(s * tie, -28);
            done("a tie", call, 3, s * rows[i][1], (int) rows[i][2], s * (int) rows[i][3]);
            given(s * (tie - 1), -28);
            done("just below it", call, 3, s * below[i][0], (int) below[i][1], s * (int) below[i][2]);
            given(s * (tie + 1), -28);
            done("just above it", call, 3, s * above[i][0], (int) above[i][1], s * (int) above[i][2]);
        }
        given(s * ALL_NARROW, 0);
        done("exact", call, 3, s * ALL_NARROW, 0, 0);
    }
}
