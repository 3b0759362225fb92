/** Promise 9: "a is below 0: REFUSED", 0 is not, and the root of every power of 2. */
public final class Promise09RootTest extends Trial {
    public static void main(String[] args) {
        new Promise09RootTest().run();
    }

    @Override
    void sentences() {
        for (boolean narrow : BOTH) {
            belowZero(narrow);
            fromZero(narrow);
            powers(narrow);
        }
        mustBeNarrow();
    }

    private void belowZero(boolean narrow) {
        sentence("a is below 0: REFUSED, " + bitsOf(narrow) + " bits");
        given(-1, -100, -1, 0, -4, 0, -ALL_NARROW, 76);
        refused("-2^-100, the nearest to 0", x -> x.root(5, 0, narrow));
        refused("-1", x -> x.root(5, 1, narrow));
        refused("-4", x -> x.root(5, 2, narrow));
        refused("the least", x -> x.root(5, 3, narrow));
        refused("into itself", x -> x.root(0, 0, narrow));
    }

    private void fromZero(boolean narrow) {
        sentence("a is not below 0, " + bitsOf(narrow) + " bits");
        given(0, 0, 1, -100, 1, 0);
        done("0", x -> x.root(5, 0, narrow), 5, 0, 0, 0);
        done("2^-100, the nearest to 0", x -> x.root(5, 1, narrow), 5, 1, -50, 0);
        done("1", x -> x.root(5, 2, narrow), 5, 1, 0, 0);
    }

    private void powers(boolean narrow) {
        sentence("the square root of powers of 2, " + bitsOf(narrow) + " bits");
        for (int e = -50; e < 50; e++) {
            int half = e;
            given(1, 2 * e, 1, 2 * e + 1);
            done("2^" + 2 * e, x -> x.root(5, 0, narrow), 5, 1, half, 0);
            if (narrow) {
                done("2^" + (2 * e + 1), x -> x.root(5, 1, true), 5, 11863283, half - 23, -1);
            } else {
                done("2^" + (2 * e + 1), x -> x.root(5, 1, false), 5, 6369051672525773L, half - 52, 1);
            }
        }
    }

    private void mustBeNarrow() {
        sentence("a must be NARROW with narrow true");
        long wide = (1L << 24) + 1;
        given(wide * wide, 0, ALL_NARROW, 0, -wide, 0, 1L << 24, 0);
        done("25 bits in 53", x -> x.root(5, 0, false), 5, wide, 0, 0);
        refused("25 bits in 24", x -> x.root(5, 0, true));
        refused("25 bits in 24, below 0", x -> x.root(5, 2, true));
        done("24 bits in 24", x -> x.root(5, 1, true), 5, ALL_NARROW, -12, -1);
        done("2^24", x -> x.root(5, 3, true), 5, 1, 12, 0);
    }
}
