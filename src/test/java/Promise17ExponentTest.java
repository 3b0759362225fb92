/** Promise 17: the E of the odd M; "0 for 0; NONE as said". */
public final class Promise17ExponentTest extends Trial {
    public static void main(String[] args) {
        new Promise17ExponentTest().run();
    }

    @Override
    void sentences() {
        zero();
        for (int sign : SIGNS) {
            everyLength(sign);
            ends(sign);
        }
        wrongRegisters();
    }

    private void zero() {
        sentence("0 for 0");
        for (int e : new int[] {-250, -1, 0, 1, 250}) {
            given(0, e);
            answers("0 set with e " + e, x -> x.exponent(0), 0);
        }
        given(1, -100, -1, -100);
        answers("just above 0", x -> x.exponent(0), -100);
        answers("just below 0", x -> x.exponent(1), -100);
        RoundedNumbers x = new RoundedNumbers();
        x.set(0, -5, 3);
        x.add(0, 0, 1, false);
        due("-5 * 2^3", x.exponent(0), 3);
        x.subtract(0, 0, 0, false);
        due("0 that was left", x.exponent(0), 0);
    }

    private void everyLength(int s) {
        sentence("The E of that, sign " + s);
        for (int n = 0; n <= 52; n++) {
            given(s * (1L << n), 0, s * allOf(n + 1), -7, s * (allOf(n + 1) << (52 - n)), -60);
            answers("2^" + n, x -> x.exponent(0), n);
            answers("all " + (n + 1) + " bits", x -> x.exponent(1), -7);
            answers("all " + (n + 1) + " bits and zeros", x -> x.exponent(2), -8 - n);
        }
        for (int e = -100; e <= 99; e++) {
            given(s, e);
            answers("2^" + e, x -> x.exponent(0), e);
        }
    }

    private void ends(int s) {
        sentence("The E of that, at the ends, sign " + s);
        given(s * ALL, 47, s * (ALL - 1), 47, s, -100, s * ((1L << 52) + 1), -152, s, 99, s * ALL, -152);
        answers("the greatest", x -> x.exponent(0), 47);
        answers("the one before it", x -> x.exponent(1), 48);
        answers("2^-100", x -> x.exponent(2), -100);
        answers("the one after it", x -> x.exponent(3), -152);
        answers("2^99", x -> x.exponent(4), 99);
        answers("all bits of the least places", x -> x.exponent(5), -152);
    }

    private void wrongRegisters() {
        sentence("NONE as said");
        given(1, 0, 1, 1, 1, 2, 1, 3, 1, 4, 1, 5, 1, 6, 1, 7);
        for (int r = 0; r < 8; r++) {
            int right = r;
            answers("register " + r, x -> x.exponent(right), r);
        }
        for (int r : WRONG) {
            answers("register " + r, x -> x.exponent(r), NONE);
        }
    }
}
