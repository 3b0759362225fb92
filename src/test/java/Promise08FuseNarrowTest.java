/** Promise 8: the same to 24 bits; "registers a, b and c must be NARROW", each at the last one that is. */
public final class Promise08FuseNarrowTest extends FuseTrial {
    Promise08FuseNarrowTest() {
        super(true);
    }

    public static void main(String[] args) {
        new Promise08FuseNarrowTest().run();
    }

    @Override
    void sentences() {
        everyDistance();
        withZero();
        onlyTheLastBitIsLeft();
        for (int sign : SIGNS) {
            narrowRegisters(sign);
            wideRegisters(sign);
        }
        registerToPutInto();
    }

    private void narrowRegisters(int s) {
        sentence("registers a, b and c must be NARROW, and are, sign " + s);
        for (long m : new long[] {ALL_NARROW - 1, ALL_NARROW, 1L << 24, (1L << 24) + 2, (1L << 25) - 2, ALL_NARROW << 29}) {
            given(s * m, 0, 1, 0, 0, 0);
            done("a", x -> x.fuseNarrow(3, 0, 1, 2), 3, s * m, 0, 0);
            done("b", x -> x.fuseNarrow(3, 1, 0, 2), 3, s * m, 0, 0);
            done("c", x -> x.fuseNarrow(3, 2, 1, 0), 3, s * m, 0, 0);
        }
    }

    private void wideRegisters(int s) {
        sentence("registers a, b and c must be NARROW, and one is not, sign " + s);
        for (long m : new long[] {(1L << 24) + 1, (1L << 25) - 1, (1L << 25) + 2, ((1L << 25) - 1) << 28, ALL}) {
            given(s * m, 0, 1, 0, 0, 0);
            refused("a", x -> x.fuseNarrow(3, 0, 1, 2));
            refused("a, by 0", x -> x.fuseNarrow(3, 0, 2, 2));
            refused("b", x -> x.fuseNarrow(3, 1, 0, 2));
            refused("b, by 0", x -> x.fuseNarrow(3, 2, 0, 2));
            refused("c", x -> x.fuseNarrow(3, 2, 1, 0));
            refused("all", x -> x.fuseNarrow(0, 0, 0, 0));
        }
    }

    private void registerToPutInto() {
        sentence("d is none of those");
        given(3, 0, 5, 0, 7, 0, ALL, 0);
        done("not NARROW before", x -> x.fuseNarrow(3, 0, 1, 2), 3, 22, 0, 0);
    }
}
