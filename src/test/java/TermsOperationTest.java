/**
 * Terms, OPERATION: "register d, which may be one of those that it takes (they are taken first)", "RANGE, and nothing
 * changes", "With narrow true, registers that are taken must be NARROW, else REFUSED", and LOST, for each OPERATION;
 * and the 512 calls that an object is used for.
 */
public final class TermsOperationTest extends Trial {
    private static final int[] COUNTS = {0, 1, 2, 3};

    public static void main(String[] args) {
        new TermsOperationTest().run();
    }

    @Override
    void sentences() {
        for (Operation operation : Operation.values()) {
            takenBeforePut(operation);
            mustBeNarrow(operation);
            for (Operation before : Operation.values()) {
                nothingIsLeftOf(before, operation);
            }
        }
        takenBeforePutByHand();
        rangeWithATakenRegister();
        refusedRatherThanRange();
        for (int sign : SIGNS) {
            lostIsSet(sign);
            lostBecomesZero(sign);
        }
        lostOfARoot();
        aLifeOf512Calls();
    }

    /** Whatever d is, the number is the one that another, free register gets, and no other register changes. */
    private void takenBeforePut(Operation operation) {
        sentence("register d may be one of those that it takes, " + operation.title());
        for (int a = 0; a < 3; a++) {
            for (int b = 0; b < 3; b++) {
                for (int c = 0; c < 3; c++) {
                    for (int d = 0; d < 4; d++) {
                        takenInto(operation, d, a, b, c);
                    }
                }
            }
        }
    }

    private void takenInto(Operation operation, int d, int a, int b, int c) {
        RoundedNumbers free = threeFiveSeven();
        RoundedNumbers x = threeFiveSeven();
        String what = "d " + d + ", a " + a + ", b " + b + ", c " + c;
        due(what, operation.call(free, 7, a, b, c), RoundedNumbers.DONE);
        due(what, operation.call(x, d, a, b, c), RoundedNumbers.DONE);
        due(what + ", odd(d)", x.odd(d), free.odd(7));
        due(what + ", exponent(d)", x.exponent(d), free.exponent(7));
        for (int count : COUNTS) {
            due(what + ", count(" + count + ")", x.count(count), count == 1 ? narrowOnes(free) : free.count(count));
        }
        for (int r = 0; r < 8; r++) {
            if (r != d) {
                due(what + ", odd(" + r + ")", x.odd(r), r < 3 ? 3 + 2 * r : 0);
                due(what + ", exponent(" + r + ")", x.exponent(r), 0);
            }
        }
    }

    /** All are NARROW but, maybe, what the operation gave, whichever register has it. */
    private static long narrowOnes(RoundedNumbers free) {
        return Math.abs(free.odd(7)) <= ALL_NARROW ? 8 : 7;
    }

    /** What an OPERATION gives does not hang on what was rounded, or was too long, before it. */
    private void nothingIsLeftOf(Operation before, Operation operation) {
        sentence("What it gives, " + operation.title() + " after " + before.title());
        for (int from = 0; from <= 3; from += 3) {
            if (from == 3 && before.takesNarrow) {
                continue;
            }
            RoundedNumbers alone = longOnes();
            RoundedNumbers x = longOnes();
            due("before", before.call(x, 6, from, from + 1, from + 2), RoundedNumbers.DONE);
            x.cubeRoot(from, from + 1);
            for (int a = 0; a <= (operation.takesNarrow ? 0 : 3); a += 3) {
                due("the answer", operation.call(x, 7, a, a + 1, a + 2), operation.call(alone, 7, a, a + 1, a + 2));
                due("odd", x.odd(7), alone.odd(7));
                due("exponent", x.exponent(7), alone.exponent(7));
                due("LOST", x.count(0), alone.count(0));
            }
        }
    }

    /** Registers 0 .. 2 with 24 bits, 3 .. 5 with 53. */
    private static RoundedNumbers longOnes() {
        RoundedNumbers x = new RoundedNumbers();
        x.set(0, ALL_NARROW, -3);
        x.set(1, ALL_NARROW - 2, -20);
        x.set(2, ALL_NARROW - 12, -9);
        x.set(3, ALL, -30);
        x.set(4, ALL - 2, -50);
        x.set(5, ALL - 12, -39);
        return x;
    }

    private static RoundedNumbers threeFiveSeven() {
        RoundedNumbers x = new RoundedNumbers();
        x.set(0, 3, 0);
        x.set(1, 5, 0);
        x.set(2, 7, 0);
        return x;
    }

    private void takenBeforePutByHand() {
        sentence("register d may be one of those that it takes");
        given(9, 0, 2, 0, 5, 0);
        for (boolean narrow : BOTH) {
            done("add into a", x -> x.add(0, 0, 1, narrow), 0, 11, 0, 0);
            done("add into b", x -> x.add(1, 0, 1, narrow), 1, 11, 0, 0);
            done("add into both", x -> x.add(0, 0, 0, narrow), 0, 18, 0, 0);
            done("subtract into a", x -> x.subtract(0, 0, 1, narrow), 0, 7, 0, 0);
            done("subtract into b", x -> x.subtract(1, 0, 1, narrow), 1, 7, 0, 0);
            done("subtract into both", x -> x.subtract(0, 0, 0, narrow), 0, 0, 0, 0);
            done("multiply into a", x -> x.multiply(0, 0, 1, narrow), 0, 18, 0, 0);
            done("multiply into b", x -> x.multiply(1, 0, 1, narrow), 1, 18, 0, 0);
            done("multiply into both", x -> x.multiply(0, 0, 0, narrow), 0, 81, 0, 0);
            done("divide into a", x -> x.divide(0, 0, 1, narrow), 0, 9, -1, 0);
            done("divide into b", x -> x.divide(1, 0, 1, narrow), 1, 9, -1, 0);
            done("divide into both", x -> x.divide(0, 0, 0, narrow), 0, 1, 0, 0);
            done("root into a", x -> x.root(0, 0, narrow), 0, 3, 0, 0);
            done("copy into a", x -> x.copy(0, 0, narrow), 0, 9, 0, 0);
        }
        done("fuse into a", x -> x.fuse(0, 0, 1, 2), 0, 23, 0, 0);
        done("fuse into b", x -> x.fuse(1, 0, 1, 2), 1, 23, 0, 0);
        done("fuse into c", x -> x.fuse(2, 0, 1, 2), 2, 23, 0, 0);
        done("fuse into all", x -> x.fuse(0, 0, 0, 0), 0, 90, 0, 0);
        done("fuseNarrow into a", x -> x.fuseNarrow(0, 0, 1, 2), 0, 23, 0, 0);
        done("fuseNarrow into b", x -> x.fuseNarrow(1, 0, 1, 2), 1, 23, 0, 0);
        done("fuseNarrow into c", x -> x.fuseNarrow(2, 0, 1, 2), 2, 23, 0, 0);
        done("fuseNarrow into all", x -> x.fuseNarrow(0, 0, 0, 0), 0, 90, 0, 0);
        done("remainder into a", x -> x.remainder(0, 0, 1), 0, 1, 0, 0);
        done("remainder into b", x -> x.remainder(1, 0, 1), 1, 1, 0, 0);
        done("remainder into both", x -> x.remainder(0, 0, 0), 0, 0, 0, 0);
        done("scale into a", x -> x.scale(0, 0, 4), 0, 9, 4, 0);
        done("step into a", x -> x.step(0, 0, true, false), 0, (9L << 49) + 1, -49, 0);
        done("narrow step into a", x -> x.step(0, 0, false, true), 0, (9L << 20) - 1, -20, 0);
    }

    private void rangeWithATakenRegister() {
        sentence("RANGE, and nothing changes, with d among those taken");
        given(1, 99, 1, -100, ALL, 47, (1L << 52) + 1, -152);
        for (boolean narrow : BOTH) {
            range("add", x -> x.add(0, 0, 0, narrow));
            range("multiply, too great", x -> x.multiply(0, 0, 0, narrow));
            range("multiply, too small", x -> x.multiply(1, 1, 1, narrow));
            range("divide, too great", x -> x.divide(1, 0, 1, narrow));
            range("divide, too small", x -> x.divide(0, 1, 0, narrow));
            range("step", x -> x.step(2, 2, true, narrow));
        }
        range("subtract", x -> x.subtract(1, 3, 1, false));
        range("fuse, too great", x -> x.fuse(0, 0, 0, 0));
        range("fuseNarrow, too great", x -> x.fuseNarrow(0, 0, 0, 0));
        range("remainder", x -> x.remainder(3, 3, 1));
        range("copy", x -> x.copy(2, 2, true));
        range("scale, too great", x -> x.scale(0, 0, 1));
        range("scale, too small", x -> x.scale(1, 1, -1));
        given(1, 99, -1, 99, 1, -100, 0, 0, ALL_NARROW, -123);
        range("subtract in 24 bits, too great", x -> x.subtract(0, 0, 1, true));
        range("subtract in 24 bits, too small", x -> x.subtract(2, 4, 2, true));
        range("fuse, too small", x -> x.fuse(2, 2, 2, 3));
        range("fuseNarrow, too small", x -> x.fuseNarrow(2, 2, 2, 3));
    }

    /** Each register that is taken, with 24 bits and with 25; d is not NARROW, which does not matter. */
    private void mustBeNarrow(Operation operation) {
        sentence("With narrow true, registers that are taken must be NARROW, " + operation.title());
        long[] narrow = {1, ALL_NARROW, 1L << 24, (1L << 24) + 2, ALL_NARROW << 29};
        long[] wide = {(1L << 24) + 1, (1L << 25) - 1, ((1L << 25) - 1) << 28, ALL};
        for (int place = 1; place <= operation.takes; place++) {
            for (long m : narrow) {
                oneTaken(operation, place, m, RoundedNumbers.DONE);
            }
            for (long m : wide) {
                oneTaken(operation, place, m, operation.takesNarrow ? REFUSED : RoundedNumbers.DONE);
            }
        }
    }

    private void oneTaken(Operation operation, int place, long m, int due) {
        String what = m + " as register " + place + " of those taken";
        if (due == REFUSED) {
            given(3, 0, 5, 0, 7, 0, ALL, 0, m, 0);
            refused(what, x -> operation.callWith(x, place, 4, 3, 0, 1, 2));
            return;
        }
        RoundedNumbers x = threeFiveSeven();
        x.set(3, ALL, 0);
        x.set(4, m, 0);
        due(what, operation.callWith(x, place, 4, 3, 0, 1, 2), due);
    }

    private void refusedRatherThanRange() {
        sentence("must be NARROW, else REFUSED, where it would be RANGE");
        given((1L << 24) + 1, 75, 1, 99, 1, -100, (1L << 24) + 1, -124, -1, 99);
        refused("add, a", x -> x.add(5, 0, 1, true));
        refused("add, b", x -> x.add(5, 1, 0, true));
        refused("subtract, a", x -> x.subtract(5, 0, 4, true));
        refused("subtract, b", x -> x.subtract(5, 4, 0, true));
        refused("multiply, a", x -> x.multiply(5, 0, 1, true));
        refused("multiply, b", x -> x.multiply(5, 2, 3, true));
        refused("divide, a", x -> x.divide(5, 0, 2, true));
        refused("divide, b", x -> x.divide(5, 2, 0, true));
        refused("fuseNarrow, a", x -> x.fuseNarrow(5, 0, 1, 1));
        refused("fuseNarrow, b", x -> x.fuseNarrow(5, 1, 0, 1));
        refused("fuseNarrow, c", x -> x.fuseNarrow(5, 1, 1, 0));
        range("the same with 53 bits", x -> x.add(5, 0, 1, false));
        range("the same product with 53 bits", x -> x.multiply(5, 2, 3, false));
    }

    /** Less and greater than the real one, from every LOST before. */
    private void lostIsSet(int s) {
        sentence("LOST: -1, 0, 1, sign " + s);
        given(s, 0, 3, 0, 5, 0, s, 53, s, 24, s, -54);
        done("divide, less in size", x -> x.divide(7, 0, 1, false), 7, s * 6004799503160661L, -54, -s);
        done("divide, greater in size", x -> x.divide(7, 0, 2, false), 7, s * 3602879701896397L, -54, s);
        done("divide to 24 bits, greater in size", x -> x.divide(7, 0, 1, true), 7, s * 11184811, -25, s);
        done("divide to 24 bits, greater in size", x -> x.divide(7, 0, 2, true), 7, s * 13421773, -26, s);
        done("add, less in size", x -> x.add(7, 3, 0, false), 7, s, 53, -s);
        done("add to 24 bits, less in size", x -> x.add(7, 4, 0, true), 7, s, 24, -s);
        done("subtract, greater in size", x -> x.subtract(7, 0, 5, false), 7, s, 0, s);
        done("subtract to 24 bits, greater in size", x -> x.subtract(7, 0, 5, true), 7, s, 0, s);
        done("fuse, greater in size", x -> x.fuse(7, 0, 1, 3), 7, s * ((1L << 51) + 1), 2, s);
        done("fuse, less in size", x -> x.fuse(7, 2, 5, 0), 7, s * ((1L << 52) + 1), -52, -s);
        done("fuseNarrow, greater in size", x -> x.fuseNarrow(7, 0, 1, 4), 7, s * ((1L << 22) + 1), 2, s);
        done("fuseNarrow, less in size", x -> x.fuseNarrow(7, 1, 5, 0), 7, s, 0, -s);
        given(3, 0, s * 3002399751580331L, 0, (1L << 27) - 1, 0, s * ((1L << 27) + 1), 0);
        done("multiply, less in size", x -> x.multiply(7, 0, 1, false), 7, s, 53, -s);
        done("multiply, greater in size", x -> x.multiply(7, 2, 3, false), 7, s, 54, s);
        given(673, 0, s * 24929, 0, 1801, 0, s * 18631, 0, s * ((1L << 24) + 1), 0, s * ((1L << 24) + 3), 0);
        done("multiply to 24 bits, less in size", x -> x.multiply(7, 0, 1, true), 7, s, 24, -s);
        done("multiply to 24 bits, greater in size", x -> x.multiply(7, 2, 3, true), 7, s, 25, s);
        done("copy to 24 bits, less in size", x -> x.copy(7, 4, true), 7, s, 24, -s);
        done("copy to 24 bits, greater in size", x -> x.copy(7, 5, true), 7, s * ((1L << 22) + 1), 2, s);
    }

    private void lostBecomesZero(int s) {
        sentence("LOST: 0 if it is the same as the real one, sign " + s);
        given(6 * s, 0, 3, 0, 36, 0);
        for (boolean narrow : BOTH) {
            done("add", x -> x.add(7, 0, 0, narrow), 7, 12 * s, 0, 0);
            done("subtract", x -> x.subtract(7, 0, 0, narrow), 7, 0, 0, 0);
            done("multiply", x -> x.multiply(7, 0, 1, narrow), 7, 18 * s, 0, 0);
            done("divide", x -> x.divide(7, 0, 1, narrow), 7, 2 * s, 0, 0);
            done("root", x -> x.root(7, 2, narrow), 7, 6, 0, 0);
            done("copy", x -> x.copy(7, 0, narrow), 7, 6 * s, 0, 0);
        }
        done("fuse", x -> x.fuse(7, 0, 1, 0), 7, 24 * s, 0, 0);
        done("fuseNarrow", x -> x.fuseNarrow(7, 0, 1, 0), 7, 24 * s, 0, 0);
        done("remainder", x -> x.remainder(7, 0, 2), 7, 6 * s, 0, 0);
        done("scale", x -> x.scale(7, 0, 1), 7, 12 * s, 0, 0);
        done("step", x -> x.step(7, 1, true, true), 7, (3L << 22) + 1, -22, 0);
    }

    private void lostOfARoot() {
        sentence("LOST: -1, 0, 1, root");
        given(2, 0, 3, 0, 5, 0);
        done("of 2, greater", x -> x.root(7, 0, false), 7, 6369051672525773L, -52, 1);
        done("of 3, less", x -> x.root(7, 1, false), 7, 7800463371553962L, -52, -1);
        done("of 2 to 24 bits, less", x -> x.root(7, 0, true), 7, 11863283, -23, -1);
        done("of 3 to 24 bits, less", x -> x.root(7, 1, true), 7, 14529495, -23, -1);
        done("of 5 to 24 bits, greater", x -> x.root(7, 2, true), 7, 9378749, -22, 1);
    }

    private void aLifeOf512Calls() {
        sentence("An object is used for at most 512 calls");
        RoundedNumbers x = new RoundedNumbers();
        x.set(0, 1, 0);
        x.set(1, 3, 0);
        for (int i = 0; i < 254; i++) {
            due("1 / 3", x.divide(2, 0, 1, false), RoundedNumbers.DONE);
            due("2^100", x.set(3, 1, 100), RANGE);
        }
        due("call 511", x.count(2), 254);
        due("call 512", x.count(3), 254);
    }
}
