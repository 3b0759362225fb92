/** Promise 16: the odd M, "0 for 0", and NONE for register numbers out of 0 .. 7. */
public final class Promise16OddTest extends Trial {
    public static void main(String[] args) {
        new Promise16OddTest().run();
    }

    @Override
    void sentences() {
        zero();
        for (int sign : SIGNS) {
            everyLength(sign);
            ends(sign);
        }
        wrongRegisters();
    }

    private void zero() {
        sentence("0 for 0");
        for (int e : new int[] {-250, -1, 0, 1, 250}) {
            given(0, e);
            answers("0 set with e " + e, x -> x.odd(0), 0);
        }
        given(1, -100, -1, -100);
        answers("just above 0", x -> x.odd(0), 1);
        answers("just below 0", x -> x.odd(1), -1);
        RoundedNumbers x = new RoundedNumbers();
        x.set(0, -5, 3);
        x.add(0, 0, 1, false);
        due("-5 * 2^3", x.odd(0), -5);
        x.subtract(0, 0, 0, false);
        due("0 that was left", x.odd(0), 0);
    }

    private void everyLength(int s) {
        sentence("written with an odd M, sign " + s);
        for (int n = 0; n <= 52; n++) {
            given(s * (1L << n), -n, s * allOf(n + 1), 0, s * (allOf(n + 1) << (52 - n)), 0);
            answers("2^" + n, x -> x.odd(0), s);
            answers("all " + (n + 1) + " bits", x -> x.odd(1), s * allOf(n + 1));
            answers("all " + (n + 1) + " bits and zeros", x -> x.odd(2), s * allOf(n + 1));
        }
    }

    private void ends(int s) {
        sentence("written with an odd M, at the ends, sign " + s);
        given(s * ALL, 47, s * (ALL - 1), 47, s, -100, s * ((1L << 52) + 1), -152, s, 99);
        answers("the greatest", x -> x.odd(0), s * ALL);
        answers("the one before it", x -> x.odd(1), s * (ALL - 1) / 2);
        answers("2^-100", x -> x.odd(2), s);
        answers("the one after it", x -> x.odd(3), s * ((1L << 52) + 1));
        answers("2^99", x -> x.odd(4), s);
    }

    private void wrongRegisters() {
        sentence("Register numbers out of 0 .. 7: NONE");
        given(3, 0, 5, 0, 7, 0, 9, 0, 11, 0, 13, 0, 15, 0, 17, 0);
        for (int r = 0; r < 8; r++) {
            int right = r;
            answers("register " + r, x -> x.odd(right), 3 + 2 * r);
        }
        for (int r : WRONG) {
            answers("register " + r, x -> x.odd(r), NONE);
        }
    }
}
