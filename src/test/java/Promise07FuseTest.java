/** Promise 7: fuse is "rounded just once", to 53 bits, whatever its registers are. */
public final class Promise07FuseTest extends FuseTrial {
    Promise07FuseTest() {
        super(false);
    }

    public static void main(String[] args) {
        new Promise07FuseTest().run();
    }

    @Override
    void sentences() {
        everyDistance();
        withZero();
        onlyTheLastBitIsLeft();
        longestNumbers();
        carries();
        registersNeedNotBeNarrow();
    }

    private void longestNumbers() {
        sentence("the product of the longest numbers, plus c");
        for (int s : SIGNS) {
            given(ALL, -53, s * ALL, 0, -s * (ALL - 1), 0);
            done("less what it is rounded to", x -> x.fuse(3, 0, 1, 2), 3, s, -53, 0);
            given(ALL, -53, s * ALL, 0, s, -54);
            done("plus less than is needed", x -> x.fuse(3, 0, 1, 2), 3, s * (ALL - 1), 0, -s);
            given(ALL, -53, s * ALL, 0, s, -1);
            done("plus half a place, and 2^-53", x -> x.fuse(3, 0, 1, 2), 3, s * ALL, 0, s);
        }
    }

    /** (2^52 + 1) * (2^20 + 1) * 2^-19 is 2^53 + 2^33 + 2 + 2^-19: with 1 - 2^-19 it is a tie, the even one above. */
    private void carries() {
        sentence("the product of a and b, plus c, where the last bits make up a whole");
        long even = (1L << 52) + (1L << 32) + 2;
        for (int s : SIGNS) {
            given((1L << 52) + 1, 0, s * ((1L << 20) + 1), -19, s * ((1L << 19) - 1), -19);
            done("a tie", x -> x.fuse(3, 0, 1, 2), 3, s * even, 1, s);
            given((1L << 52) + 1, 0, s * ((1L << 20) + 1), -19, s * ((1L << 19) - 2), -19);
            done("just below it", x -> x.fuse(3, 0, 1, 2), 3, s * (even - 1), 1, -s);
            given((1L << 52) + 1, 0, s * ((1L << 20) + 1), -19, s * (1L << 19), -19);
            done("just above it", x -> x.fuse(3, 0, 1, 2), 3, s * even, 1, s);
            // (2^52 + 1)^2 is 2^104 + 2^53 + 1.
            given((1L << 52) + 1, -50, s * ((1L << 52) + 1), 0, -s * ((1L << 52) + 1), -50);
            done("2^104 + 2^52 is left", x -> x.fuse(3, 0, 1, 2), 3, s * ((1L << 52) + 1), 2, 0);
            given((1L << 52) + 1, -50, s * ((1L << 52) + 1), 0, -s * (1L << 52), -50);
            done("1 more is left", x -> x.fuse(3, 0, 1, 2), 3, s * ((1L << 52) + 1), 2, -s);
            given((1L << 52) + 1, -50, s * ((1L << 52) + 1), 0, -s * ((1L << 52) + 2), -50);
            done("1 less is left", x -> x.fuse(3, 0, 1, 2), 3, s * ((1L << 52) + 1), 2, s);
        }
    }

    private void registersNeedNotBeNarrow() {
        sentence("to 53 bits");
        long m = (1L << 24) + 1;
        given(m, 0, 1, 0, 0, 0);
        done("a not NARROW", x -> x.fuse(3, 0, 1, 2), 3, m, 0, 0);
        done("b not NARROW", x -> x.fuse(3, 1, 0, 2), 3, m, 0, 0);
        done("c not NARROW", x -> x.fuse(3, 2, 2, 0), 3, m, 0, 0);
    }
}
