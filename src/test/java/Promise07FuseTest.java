/** Promise 7: fuse is "rounded just once", to 53 bits, whatever its registers are. */
public final class Promise07FuseTest extends FuseTrial {
    Promise07FuseTest() {
        super(false);
    }

    public static void main(String[] args) {
        new Promise07FuseTest().run();
    }

    @Override
    void sentences() {
        everyDistance();
        withZero();
        onlyTheLastBitIsLeft();
        longestNumbers();
        registersNeedNotBeNarrow();
    }

    private void longestNumbers() {
        sentence("the product of the longest numbers, plus c");
        for (int s : SIGNS) {
            given(ALL, -53, s * ALL, 0, -s * (ALL - 1), 0);
            done("less what it is rounded to", x -> x.fuse(3, 0, 1, 2), 3, s, -53, 0);
            given(ALL, -53, s * ALL, 0, s, -54);
            done("plus less than is needed", x -> x.fuse(3, 0, 1, 2), 3, s * (ALL - 1), 0, -s);
            given(ALL, -53, s * ALL, 0, s, -1);
            done("plus half a place, and 2^-53", x -> x.fuse(3, 0, 1, 2), 3, s * ALL, 0, s);
        }
    }

    private void registersNeedNotBeNarrow() {
        sentence("to 53 bits");
        long m = (1L << 24) + 1;
        given(m, 0, 1, 0, 0, 0);
        done("a not NARROW", x -> x.fuse(3, 0, 1, 2), 3, m, 0, 0);
        done("b not NARROW", x -> x.fuse(3, 1, 0, 2), 3, m, 0, 0);
        done("c not NARROW", x -> x.fuse(3, 2, 2, 0), 3, m, 0, 0);
    }
}
