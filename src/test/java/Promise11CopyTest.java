/** Promise 11: "a itself (which need not be NARROW, also with narrow true)". */
public final class Promise11CopyTest extends Trial {
    public static void main(String[] args) {
        new Promise11CopyTest().run();
    }

    @Override
    void sentences() {
        for (int sign : SIGNS) {
            needNotBeNarrow(sign);
            everyLength(sign);
        }
        zero();
    }

    private void needNotBeNarrow(int s) {
        sentence("which need not be NARROW, also with narrow true, sign " + s);
        given(s * ALL_NARROW, 0, s * (1L << 24), 0, s * ((1L << 24) + 1), 0, s * ((1L << 24) + 2), 0, s * ((1L << 24) + 3), 0);
        done("24 bits", x -> x.copy(7, 0, true), 7, s * ALL_NARROW, 0, 0);
        done("2^24", x -> x.copy(7, 1, true), 7, s, 24, 0);
        done("25 bits", x -> x.copy(7, 2, true), 7, s, 24, -s);
        done("25 bits in 53", x -> x.copy(7, 2, false), 7, s * ((1L << 24) + 1), 0, 0);
        done("24 bits and a 0", x -> x.copy(7, 3, true), 7, s * ((1L << 23) + 1), 1, 0);
        done("25 bits, rounded up", x -> x.copy(7, 4, true), 7, s * ((1L << 22) + 1), 2, s);
        done("25 bits into itself", x -> x.copy(4, 4, true), 4, s * ((1L << 22) + 1), 2, s);
        done("25 bits into itself in 53", x -> x.copy(4, 4, false), 4, s * ((1L << 24) + 3), 0, 0);
        given(s * ALL, 0);
        done("53 bits", x -> x.copy(7, 0, true), 7, s, 53, s);
        done("53 bits in 53", x -> x.copy(7, 0, false), 7, s * ALL, 0, 0);
    }

    /** 2^n - 1 and 2^n + 1 for every n that has them. */
    private void everyLength(int s) {
        sentence("a itself, with every number of bits, sign " + s);
        for (int n = 2; n <= 53; n++) {
            long all = allOf(n);
            given(s * all, 0);
            done("2^" + n + " - 1", x -> x.copy(7, 0, false), 7, s * all, 0, 0);
            if (n <= 24) {
                done("2^" + n + " - 1 to 24 bits", x -> x.copy(7, 0, true), 7, s * all, 0, 0);
            } else {
                done("2^" + n + " - 1 to 24 bits", x -> x.copy(7, 0, true), 7, s * (all + 1), 0, s);
            }
        }
        for (int n = 1; n <= 52; n++) {
            long m = (1L << n) + 1;
            given(s * m, 0);
            done("2^" + n + " + 1", x -> x.copy(7, 0, false), 7, s * m, 0, 0);
            if (n <= 23) {
                done("2^" + n + " + 1 to 24 bits", x -> x.copy(7, 0, true), 7, s * m, 0, 0);
            } else {
                done("2^" + n + " + 1 to 24 bits", x -> x.copy(7, 0, true), 7, s * (m - 1), 0, -s);
            }
        }
    }

    private void zero() {
        sentence("a itself, 0");
        given(0, 0);
        for (boolean narrow : BOTH) {
            done("0", x -> x.copy(7, 0, narrow), 7, 0, 0, 0);
        }
    }
}
