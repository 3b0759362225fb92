/** Counts the answers of a test, prints each one that is not due, and ends the test. */
final class Checks {
    private static final int PRINTED = 40;

    private long right;
    private long wrong;

    void due(String call, long got, long want) {
        if (got == want) {
            right++;
            return;
        }
        wrong++;
        if (wrong <= PRINTED) {
            System.out.println(call + " answered " + got + ", due is " + want);
        }
    }

    /** Register r must be odd * 2^exponent. */
    void holds(String when, RoundedNumbers x, int r, long odd, long exponent) {
        due(when + ": odd(" + r + ")", x.odd(r), odd);
        due(when + ": exponent(" + r + ")", x.exponent(r), exponent);
    }

    void end(String test) {
        System.out.println(test + ": " + right + " answers as due, " + wrong + " not");
        if (wrong != 0 || right == 0) {
            System.exit(1);
        }
    }
}
