/** Promise 6: "b is 0: REFUSED", and the b nearest to 0 are not; quotients of powers of 2 over the whole range. */
public final class Promise06DivideTest extends Trial {
    public static void main(String[] args) {
        new Promise06DivideTest().run();
    }

    @Override
    void sentences() {
        for (boolean narrow : BOTH) {
            byZero(narrow);
            nearestToZero(narrow);
            powers(narrow);
        }
        byAnotherZero();
    }

    private void byZero(boolean narrow) {
        sentence("b is 0: REFUSED, " + bitsOf(narrow) + " bits");
        for (int s : SIGNS) {
            given(s, 0, 0, 0, s, -100, s * ALL_NARROW, 76);
            refused("1 by 0", x -> x.divide(5, 0, 1, narrow));
            refused("0 by 0", x -> x.divide(5, 1, 1, narrow));
            refused("the least by 0", x -> x.divide(5, 2, 1, narrow));
            refused("the greatest by 0", x -> x.divide(5, 3, 1, narrow));
            refused("into the 0", x -> x.divide(1, 0, 1, narrow));
            refused("into what is divided", x -> x.divide(0, 0, 1, narrow));
        }
    }

    private void nearestToZero(boolean narrow) {
        sentence("b is not 0, but as near to it as can be, " + bitsOf(narrow) + " bits");
        for (int s : SIGNS) {
            given(3, -100, s, -100, 0, 0, 1, 0);
            done("3 * 2^-100", x -> x.divide(5, 0, 1, narrow), 5, 3 * s, 0, 0);
            done("0", x -> x.divide(5, 2, 1, narrow), 5, 0, 0, 0);
            done("itself", x -> x.divide(5, 1, 1, narrow), 5, 1, 0, 0);
            range("1", x -> x.divide(5, 3, 1, narrow));
        }
    }

    /** A 0 that an OPERATION has left is the same 0. */
    private void byAnotherZero() {
        sentence("b is 0: REFUSED, a 0 that was left");
        RoundedNumbers x = new RoundedNumbers();
        x.set(0, -7, 0);
        x.subtract(1, 0, 0, false);
        due("divide", x.divide(2, 0, 1, false), REFUSED);
        x.set(1, 1, -100);
        x.step(1, 1, false, false);
        due("divide", x.divide(2, 0, 1, true), REFUSED);
        x.remainder(1, 0, 0);
        due("divide", x.divide(2, 0, 1, false), REFUSED);
        x.set(1, 0, 250);
        due("divide", x.divide(2, 0, 1, false), REFUSED);
    }

    private void powers(boolean narrow) {
        sentence("the quotient of powers of 2, " + bitsOf(narrow) + " bits");
        for (int i = -100; i < 100; i += 3) {
            for (int less : new int[] {-199, -102, -101, -100, -99, 0, 98, 99, 100, 101, 199}) {
                int j = i - less;
                if (j < -100 || j > 99) {
                    continue;
                }
                given(1, i, -1, j);
                if (less < -100 || less > 99) {
                    range("2^" + i + " by -2^" + j, x -> x.divide(3, 0, 1, narrow));
                } else {
                    done("2^" + i + " by -2^" + j, x -> x.divide(3, 0, 1, narrow), 3, -1, less, 0);
                }
            }
        }
    }
}
