/**
 * Terms: "Register numbers out of 0 .. 7 are REFUSED in every call, before all else, if it says nothing else (NONE
 * where the answer is a long)", and "A refused call (REFUSED) changes nothing", for every call and every reason.
 */
public final class TermsRefusedTest extends Trial {
    public static void main(String[] args) {
        new TermsRefusedTest().run();
    }

    @Override
    void sentences() {
        for (Operation operation : Operation.values()) {
            registersOf(operation);
            refusedBeforeRange(operation);
        }
        for (int r : WRONG) {
            promise02Set(r);
            refusedBeforeAllElse(r);
            callsWithoutARegisterToPutInto(r);
        }
        promise02SetOfTheLastOnes();
        everyReason();
    }

    /** Register numbers 0 and 7 are the last right ones, in each place; -1 and 8 the first wrong ones. */
    private void registersOf(Operation operation) {
        sentence("Register numbers out of 0 .. 7 are REFUSED, " + operation.title());
        given(3, 0, 5, 0, 7, 0, 11, 0, 13, 0, 17, 0, 19, 0, 23, 0);
        for (int place = 0; place <= operation.takes; place++) {
            int at = place;
            for (int r : WRONG) {
                refused("number " + r + " in place " + at, x -> operation.callWith(x, at, r, 4, 1, 2, 3));
            }
            for (int r = 0; r < 8; r++) {
                RoundedNumbers x = primes();
                due("number " + r + " in place " + at, operation.callWith(x, at, r, 4, 1, 2, 3), RoundedNumbers.DONE);
            }
        }
        for (int r : WRONG) {
            refused("number " + r + " in all places", x -> operation.call(x, r, r, r, r));
        }
    }

    private static RoundedNumbers primes() {
        long[] primes = {3, 5, 7, 11, 13, 17, 19, 23};
        RoundedNumbers x = new RoundedNumbers();
        for (int r = 0; r < 8; r++) {
            x.set(r, primes[r], 0);
        }
        return x;
    }

    /** With every register the greatest number most operations would be RANGE, if not for the register number. */
    private void refusedBeforeRange(Operation operation) {
        sentence("before all else, " + operation.title());
        long g = ALL_NARROW;
        given(g, 76, g, 76, g, 76, g, 76, g, 76, g, 76, g, 76, g, 76);
        for (int place = 0; place <= operation.takes; place++) {
            int at = place;
            for (int r : WRONG) {
                refused("number " + r + " in place " + at, x -> operation.callWith(x, at, r, 4, 1, 2, 3));
            }
        }
    }

    private void promise02Set(int r) {
        sentence("Register numbers out of 0 .. 7 are REFUSED, set of " + r);
        given();
        refused("a number", x -> x.set(r, 1, 0));
        refused("0", x -> x.set(r, 0, 0));
        refused("before RANGE, too great", x -> x.set(r, 1, 100));
        refused("before RANGE, too small", x -> x.set(r, 1, -101));
        refused("with a wrong m", x -> x.set(r, ALL + 1, 0));
        refused("with a wrong e", x -> x.set(r, 1, 251));
    }

    private void promise02SetOfTheLastOnes() {
        sentence("Register numbers 0 .. 7, set");
        given();
        for (int r = 0; r < 8; r++) {
            int d = r;
            doneBySet("register " + d, x -> x.set(d, 41, 1), d, 41, 1);
        }
    }

    private void refusedBeforeAllElse(int r) {
        sentence("before all else, number " + r);
        given(0, 0, -1, 0, ALL, 0);
        refused("divide by 0", x -> x.divide(r, 1, 0, false));
        refused("root of -1", x -> x.root(r, 1, false));
        refused("remainder by 0", x -> x.remainder(r, 1, 0));
        refused("not NARROW", x -> x.add(r, 2, 2, true));
        refused("not NARROW, fused", x -> x.fuseNarrow(r, 2, 2, 2));
        refused("scale by 501", x -> x.scale(r, 1, 501));
        refused("scale of it by 501", x -> x.scale(3, r, 501));
        refused("scale so that it is RANGE", x -> x.scale(r, 1, 200));
        refused("scale of it by 200", x -> x.scale(3, r, 200));
    }

    private void callsWithoutARegisterToPutInto(int r) {
        sentence("if it says nothing else, number " + r);
        given(0, 0, 27, 0, 3, 0);
        refused("cubeRoot, a", x -> x.cubeRoot(r, 2));
        refused("cubeRoot, r", x -> x.cubeRoot(1, r));
        refused("cubeRoot, a, with 0", x -> x.cubeRoot(r, 0));
        refused("cubeRoot, r, with 0", x -> x.cubeRoot(0, r));
        refused("cubeRoot, both", x -> x.cubeRoot(r, r));
        answers("compare, a", x -> x.compare(r, 0), -2);
        answers("compare, b", x -> x.compare(0, r), -2);
        answers("compare, both", x -> x.compare(r, r), -2);
        answers("odd", x -> x.odd(r), NONE);
        answers("exponent", x -> x.exponent(r), NONE);
        for (boolean wide : BOTH) {
            answers("whole, wide " + wide, x -> x.whole(r, wide), NONE);
        }
    }

    /** Into a register that is free, and into the one that is taken. */
    private void everyReason() {
        sentence("A refused call changes nothing");
        given(3, 0, 0, 0, -1, 0, (1L << 24) + 1, 0, 1, 60);
        for (int d = 0; d < 8; d++) {
            int into = d;
            refused("set, m too great", x -> x.set(into, ALL + 1, 0));
            refused("set, m too small", x -> x.set(into, -ALL - 1, 0));
            refused("set, e too great", x -> x.set(into, 1, 251));
            refused("set, e too small", x -> x.set(into, 1, -251));
            refused("add, a not NARROW", x -> x.add(into, 3, 0, true));
            refused("add, b not NARROW", x -> x.add(into, 0, 3, true));
            refused("subtract, a not NARROW", x -> x.subtract(into, 3, 0, true));
            refused("subtract, b not NARROW", x -> x.subtract(into, 0, 3, true));
            refused("multiply, a not NARROW", x -> x.multiply(into, 3, 0, true));
            refused("multiply, b not NARROW", x -> x.multiply(into, 0, 3, true));
            refused("divide, a not NARROW", x -> x.divide(into, 3, 0, true));
            refused("divide, b not NARROW", x -> x.divide(into, 0, 3, true));
            refused("divide by 0", x -> x.divide(into, 0, 1, false));
            refused("divide by 0 in 24 bits", x -> x.divide(into, 0, 1, true));
            refused("fuseNarrow, a not NARROW", x -> x.fuseNarrow(into, 3, 0, 0));
            refused("fuseNarrow, b not NARROW", x -> x.fuseNarrow(into, 0, 3, 0));
            refused("fuseNarrow, c not NARROW", x -> x.fuseNarrow(into, 0, 0, 3));
            refused("root, a not NARROW", x -> x.root(into, 3, true));
            refused("root of -1", x -> x.root(into, 2, false));
            refused("root of -1 in 24 bits", x -> x.root(into, 2, true));
            refused("remainder by 0", x -> x.remainder(into, 0, 1));
            refused("remainder, 2^60 times as great", x -> x.remainder(into, 4, 2));
            refused("scale by 501", x -> x.scale(into, 0, 501));
            refused("scale by -501", x -> x.scale(into, 0, -501));
        }
    }
}
