/** Promise 3: the sum at every distance of its two numbers, where bits begin to fall out and where nothing is left. */
public final class Promise03AddTest extends Trial {
    public static void main(String[] args) {
        new Promise03AddTest().run();
    }

    @Override
    void sentences() {
        for (int sign : SIGNS) {
            for (boolean narrow : BOTH) {
                everyDistance(sign, narrow);
                everyDistanceOfOppositeSigns(sign, narrow);
                withZero(sign, narrow);
            }
        }
    }

    private void everyDistance(int s, boolean narrow) {
        int bits = bitsOf(narrow);
        sentence("the sum of 2^98 and 2^(98 - n), " + bits + " bits, sign " + s);
        for (int n = 0; n <= 198; n++) {
            given(s, 98, s, 98 - n);
            boolean exact = n < bits;
            long m = exact ? (1L << n) + 1 : 1;
            int e = exact ? 98 - n : 98;
            done("n " + n, x -> x.add(3, 0, 1, narrow), 3, s * m, e, exact ? 0 : -s);
            done("n " + n + ", the other way round", x -> x.add(3, 1, 0, narrow), 3, s * m, e, exact ? 0 : -s);
        }
    }

    private void everyDistanceOfOppositeSigns(int s, boolean narrow) {
        int bits = bitsOf(narrow);
        sentence("the sum of 2^99 and -2^(99 - n), " + bits + " bits, sign " + s);
        for (int n = 0; n <= 199; n++) {
            given(s, 99, -s, 99 - n);
            boolean exact = n <= bits;
            long m = exact ? (1L << n) - 1 : 1;
            int e = exact ? 99 - n : 99;
            done("n " + n, x -> x.add(3, 0, 1, narrow), 3, s * m, e, exact ? 0 : s);
            done("n " + n + ", the other way round", x -> x.add(3, 1, 0, narrow), 3, s * m, e, exact ? 0 : s);
        }
    }

    private void withZero(int s, boolean narrow) {
        long all = allOf(bitsOf(narrow));
        sentence("the sum with 0, " + bitsOf(narrow) + " bits, sign " + s);
        given(0, 0, s * all, 100 - bitsOf(narrow), s, -100);
        done("the greatest and 0", x -> x.add(3, 1, 0, narrow), 3, s * all, 100 - bitsOf(narrow), 0);
        done("0 and the greatest", x -> x.add(3, 0, 1, narrow), 3, s * all, 100 - bitsOf(narrow), 0);
        done("the least and 0", x -> x.add(3, 2, 0, narrow), 3, s, -100, 0);
        done("0 and the least", x -> x.add(3, 0, 2, narrow), 3, s, -100, 0);
        done("0 and 0", x -> x.add(3, 0, 0, narrow), 3, 0, 0, 0);
    }
}
