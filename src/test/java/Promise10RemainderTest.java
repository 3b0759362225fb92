/** Promise 10: the sign of a, "It is always exact", "b is 0: REFUSED", and a of 2^60 times the size of b. */
public final class Promise10RemainderTest extends Trial {
    public static void main(String[] args) {
        new Promise10RemainderTest().run();
    }

    @Override
    void sentences() {
        byZero();
        for (int s : SIGNS) {
            for (int t : SIGNS) {
                signOfA(s, t);
                aroundB(s, t);
                limit(s, t);
                limitOfTheLongest(s, t);
                limitOfPowers(s, t);
                powersByThreeFiveAndSeven(s, t);
                powersByTheLongest(s, t);
                tooSmallAResult(s, t);
            }
        }
        ofZero();
    }

    private void byZero() {
        sentence("b is 0: REFUSED");
        for (int s : SIGNS) {
            given(s, 0, 0, 0, s, -100, s * ALL, 47);
            refused("1 by 0", x -> x.remainder(5, 0, 1));
            refused("0 by 0", x -> x.remainder(5, 1, 1));
            refused("the least by 0", x -> x.remainder(5, 2, 1));
            refused("the greatest by 0", x -> x.remainder(5, 3, 1));
            refused("into the 0", x -> x.remainder(1, 0, 1));
            given(3, -100, s, -100, s * 2, -100);
            done("b the nearest to 0", x -> x.remainder(5, 0, 1), 5, 0, 0, 0);
            done("b twice that", x -> x.remainder(5, 0, 2), 5, 1, -100, 0);
        }
    }

    private void ofZero() {
        sentence("a is 0");
        for (int s : SIGNS) {
            given(0, 0, s, -100, s * ALL, 47);
            done("by the nearest to 0", x -> x.remainder(5, 0, 1), 5, 0, 0, 0);
            done("by the greatest", x -> x.remainder(5, 0, 2), 5, 0, 0, 0);
        }
    }

    private void signOfA(int s, int t) {
        sentence("it has the sign of a, signs " + s + " and " + t);
        given(s * 7, 0, t * 3, 0, s * 7, -1, s * 6, 0);
        done("7 by 3", x -> x.remainder(5, 0, 1), 5, s, 0, 0);
        done("3.5 by 3", x -> x.remainder(5, 2, 1), 5, s, -1, 0);
        done("3 by 7", x -> x.remainder(5, 1, 0), 5, t * 3, 0, 0);
        done("6 by 3", x -> x.remainder(5, 3, 1), 5, 0, 0, 0);
    }

    /** As often as a / b, truncated, says: not once just below b, once at b and just above it. */
    private void aroundB(int s, int t) {
        sentence("a / b, truncated, signs " + s + " and " + t);
        long b = (1L << 51) + 12345;
        given(s * (b - 1), 0, s * b, 0, s * (b + 1), 0, t * b, 0, s * (2 * b - 1), 0, s * b, 1);
        done("just below b", x -> x.remainder(7, 0, 3), 7, s * (b - 1), 0, 0);
        done("b", x -> x.remainder(7, 1, 3), 7, 0, 0, 0);
        done("just above b", x -> x.remainder(7, 2, 3), 7, s, 0, 0);
        done("just below twice b", x -> x.remainder(7, 4, 3), 7, s * (b - 1), 0, 0);
        done("twice b", x -> x.remainder(7, 5, 3), 7, 0, 0, 0);
        given(s, -100, t * ALL, 47, s * ALL, 46);
        done("the least by the greatest", x -> x.remainder(7, 0, 1), 7, s, -100, 0);
        done("half the greatest by it", x -> x.remainder(7, 2, 1), 7, s * ALL, 46, 0);
    }

    /** 3 * 2^60 and its neighbours by 3; what is left of 3 * 2^60 - 2^9 is 3 - 2, as 2^9 is 2 more than 510. */
    private void limit(int s, int t) {
        sentence("a is 2^60 times as great as b or more, signs " + s + " and " + t);
        for (int by : new int[] {-80, 0, 30}) {
            given(s * ((3L << 51) - 1), 9 + by, s * 3, 60 + by, s * ((3L << 51) + 1), 9 + by, t * 3, by);
            done("just below", x -> x.remainder(7, 0, 3), 7, s, by, 0);
            refused("2^60 times", x -> x.remainder(7, 1, 3));
            refused("just above", x -> x.remainder(7, 2, 3));
            given(s * ALL, 8 + by, s, 61 + by, s, 62 + by, t * 3, by);
            done("just below 2^61", x -> x.remainder(7, 0, 3), 7, s, by, 0);
            done("2^61", x -> x.remainder(7, 1, 3), 7, 2 * s, by, 0);
            refused("2^62", x -> x.remainder(7, 2, 3));
        }
        given(s * ALL, 47, t, -100, t * ALL, -152);
        refused("the greatest by the least", x -> x.remainder(7, 0, 1));
        refused("the greatest by a long one", x -> x.remainder(7, 0, 2));
    }

    /** ALL * 2^60 - 2^60 is ALL - 1 times 2^60, and 2^60 is 2^7 more than a multiple of 2^53 - 1. */
    private void limitOfTheLongest(int s, int t) {
        sentence("2^60 times the longest b, signs " + s + " and " + t);
        given(s * (ALL - 1), 40, s * ALL, 40, s, 93, t * ALL, -20);
        done("just below", x -> x.remainder(7, 0, 3), 7, s * (ALL - 128), -20, 0);
        refused("2^60 times", x -> x.remainder(7, 1, 3));
        refused("just above", x -> x.remainder(7, 2, 3));
        given(s * ALL, 39, t * ALL, -20);
        done("2^59 times", x -> x.remainder(7, 0, 1), 7, 0, 0, 0);
    }

    private void limitOfPowers(int s, int t) {
        sentence("2^n times b, signs " + s + " and " + t);
        for (int n = 0; n <= 199; n++) {
            given(s, n - 100, t, -100);
            if (n < 60) {
                done("n " + n, x -> x.remainder(7, 0, 1), 7, 0, 0, 0);
            } else {
                refused("n " + n, x -> x.remainder(7, 0, 1));
            }
        }
    }

    private void powersByThreeFiveAndSeven(int s, int t) {
        sentence("what is left of 2^n, signs " + s + " and " + t);
        long[][] left = {{1, 2}, {1, 2, 4, 3}, {1, 2, 4}};
        int[] ends = {62, 63, 63};
        for (int n = 0; n < 70; n++) {
            given(s, n, t * 3, 0, t * 5, 0, t * 7, 0);
            for (int i = 0; i < 3; i++) {
                int b = 1 + i;
                if (n < ends[i]) {
                    done("2^" + n + " by " + (3 + 2 * i), x -> x.remainder(7, 0, b), 7, s * left[i][n % left[i].length], 0, 0);
                } else {
                    refused("2^" + n + " by " + (3 + 2 * i), x -> x.remainder(7, 0, b));
                }
            }
        }
    }

    /** 2^53 is 1 more than 2^53 - 1, so the powers come round after 53. */
    private void powersByTheLongest(int s, int t) {
        sentence("what is left of 2^n by 2^53 - 1 times 2^-60, signs " + s + " and " + t);
        for (int n = -60; n < 60; n++) {
            int left = (n + 60) % 53 - 60;
            given(s, n, t * ALL, -60);
            if (n < 53) {
                done("n " + n, x -> x.remainder(7, 0, 1), 7, s, left, 0);
            } else {
                refused("n " + n, x -> x.remainder(7, 0, 1));
            }
        }
    }

    private void tooSmallAResult(int s, int t) {
        sentence("An OPERATION: what is left may be RANGE, signs " + s + " and " + t);
        given(s * ((1L << 52) + 1), -152, t, -100, s * 3, -101, s * 7, -101, t * 3, -100, s * 7, -100);
        range("2^-152 is left", x -> x.remainder(7, 0, 1));
        range("2^-101 is left", x -> x.remainder(7, 2, 1));
        range("2^-101 is left again", x -> x.remainder(7, 3, 4));
        done("2^-100 is left", x -> x.remainder(7, 5, 4), 7, s, -100, 0);
        done("0 is left", x -> x.remainder(7, 5, 1), 7, 0, 0, 0);
        done("a itself", x -> x.remainder(7, 1, 4), 7, t, -100, 0);
    }
}
