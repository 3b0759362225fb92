/** Promise 5: the product of powers of 2 over the whole range, of the longest numbers, and with 0. */
public final class Promise05MultiplyTest extends Trial {
    public static void main(String[] args) {
        new Promise05MultiplyTest().run();
    }

    @Override
    void sentences() {
        for (boolean narrow : BOTH) {
            powers(narrow);
            longest(narrow);
            withZero(narrow);
        }
    }

    private void powers(boolean narrow) {
        sentence("the product of powers of 2, " + bitsOf(narrow) + " bits");
        for (int i = -100; i < 100; i += 3) {
            for (int sum : new int[] {-200, -102, -101, -100, -99, 0, 98, 99, 100, 101, 198}) {
                int j = sum - i;
                if (j < -100 || j > 99) {
                    continue;
                }
                given(1, i, -1, j);
                if (sum < -100 || sum > 99) {
                    range("2^" + i + " and -2^" + j, x -> x.multiply(3, 0, 1, narrow));
                } else {
                    done("2^" + i + " and -2^" + j, x -> x.multiply(3, 0, 1, narrow), 3, -1, sum, 0);
                }
            }
        }
    }

    /** (2^n - 1)^2 = 2^2n - 2^(n+1) + 1, whose 1 is always lost. */
    private void longest(boolean narrow) {
        int bits = bitsOf(narrow);
        long all = allOf(bits);
        sentence("the product of the longest numbers, " + bits + " bits");
        for (int s : SIGNS) {
            for (int t : SIGNS) {
                given(s * all, 0, t * all, -bits);
                done(s + " and " + t, x -> x.multiply(3, 0, 1, narrow), 3, s * t * (all - 1), 0, -s * t);
            }
        }
    }

    private void withZero(boolean narrow) {
        sentence("the product with 0, " + bitsOf(narrow) + " bits");
        for (int s : SIGNS) {
            given(0, 0, s, -100, s * ALL_NARROW, 76);
            done("the least by 0", x -> x.multiply(3, 1, 0, narrow), 3, 0, 0, 0);
            done("0 by the least", x -> x.multiply(3, 0, 1, narrow), 3, 0, 0, 0);
            done("the greatest by 0", x -> x.multiply(3, 2, 0, narrow), 3, 0, 0, 0);
            done("0 by the greatest", x -> x.multiply(3, 0, 2, narrow), 3, 0, 0, 0);
            done("0 by 0", x -> x.multiply(3, 0, 0, narrow), 3, 0, 0, 0);
        }
    }
}
