/** Each promise of the document with ordinary inputs, its edges and wrong inputs; the answers are worked out by hand. */
public final class PromisesTest {
    private static final int DONE = RoundedNumbers.DONE;
    private static final int REFUSED = RoundedNumbers.REFUSED;
    private static final int RANGE = RoundedNumbers.RANGE;
    private static final long NONE = RoundedNumbers.NONE;
    private static final long ALL = (1L << 53) - 1;
    private static final long ALL_NARROW = (1L << 24) - 1;
    private static final int[] WRONG = {-1, 8, Integer.MIN_VALUE, Integer.MAX_VALUE};

    private static final Checks CHECKS = new Checks();

    /** The object of the promise at hand. */
    private static RoundedNumbers x;

    public static void main(String[] args) {
        newObject();
        set();
        setLimits();
        add();
        addEdges();
        subtract();
        multiply();
        divide();
        fuse();
        fuseNarrow();
        root();
        remainder();
        remainderLimits();
        copy();
        scale();
        stepWide();
        stepNarrow();
        stepEdges();
        cubeRoot();
        cubeRootBetween();
        compare();
        oddAndExponent();
        whole();
        count();
        refusedChangesNothing();
        CHECKS.end("PromisesTest");
    }

    private static void begin() {
        x = new RoundedNumbers();
    }

    private static void put(int d, long m, int e) {
        CHECKS.due("set(" + d + ", " + m + ", " + e + ")", x.set(d, m, e), DONE);
    }

    private static void due(String what, long got, long want) {
        CHECKS.due(what, got, want);
    }

    /** The answer is DONE, register d is odd * 2^exponent, and LOST is as said. */
    private static void gives(String what, int answer, int d, long odd, long exponent, int lost) {
        CHECKS.due(what, answer, DONE);
        CHECKS.holds(what, x, d, odd, exponent);
        CHECKS.due(what + ": LOST", x.count(0), lost);
    }

    private static void newObject() {
        begin();
        for (int r = 0; r < 8; r++) {
            CHECKS.holds("new", x, r, 0, 0);
            due("new: compare(0, " + r + ")", x.compare(0, r), 0);
        }
        due("new: LOST", x.count(0), 0);
        due("new: NARROW ones", x.count(1), 8);
        due("new: rounded operations", x.count(2), 0);
        due("new: RANGE", x.count(3), 0);
        RoundedNumbers other = new RoundedNumbers();
        put(0, 1, 0);
        CHECKS.holds("another object", other, 0, 0, 0);
    }

    private static void set() {
        begin();
        put(0, 12, 0);
        CHECKS.holds("12", x, 0, 3, 2);
        put(7, -40, -5);
        CHECKS.holds("-1.25", x, 7, -5, -2);
        put(0, 0, 17);
        CHECKS.holds("0", x, 0, 0, 0);
        put(1, 1, 0);
        put(2, 3, 0);
        gives("1 / 3", x.divide(3, 1, 2, false), 3, 6004799503160661L, -54, -1);
        put(3, 5, 0);
        due("LOST stays with set", x.count(0), -1);
        due("set that is RANGE", x.set(3, 1, 200), RANGE);
        due("LOST stays with RANGE", x.count(0), -1);
        due("set is no OPERATION", x.count(2), 1);
    }

    private static void setLimits() {
        begin();
        put(0, ALL, 0);
        CHECKS.holds("2^53 - 1", x, 0, ALL, 0);
        put(0, -ALL, 0);
        CHECKS.holds("-2^53 + 1", x, 0, -ALL, 0);
        due("m 2^53", x.set(0, ALL + 1, 0), REFUSED);
        due("m -2^53", x.set(0, -ALL - 1, 0), REFUSED);
        due("least m", x.set(0, Long.MIN_VALUE, 0), REFUSED);
        due("greatest m", x.set(0, Long.MAX_VALUE, 0), REFUSED);
        due("e 251", x.set(0, 0, 251), REFUSED);
        due("e -251", x.set(0, 0, -251), REFUSED);
        due("least e", x.set(0, 1, Integer.MIN_VALUE), REFUSED);
        CHECKS.holds("after the refused ones", x, 0, -ALL, 0);
        due("RANGE so far", x.count(3), 0);
        due("2^100", x.set(0, 1, 100), RANGE);
        due("2^100 with all bits", x.set(0, 1L << 52, 48), RANGE);
        due("2^250", x.set(0, 1, 250), RANGE);
        due("2^-101", x.set(0, 1, -101), RANGE);
        due("just below 2^-100", x.set(0, (1L << 52) - 1, -152), RANGE);
        due("-2^-250", x.set(0, -1, -250), RANGE);
        CHECKS.holds("after RANGE", x, 0, -ALL, 0);
        due("RANGE six times", x.count(3), 6);
        put(0, ALL, 47);
        CHECKS.holds("just below 2^100", x, 0, ALL, 47);
        put(0, 1L << 52, -152);
        CHECKS.holds("2^-100", x, 0, 1, -100);
        put(0, 1L << 40, -140);
        CHECKS.holds("2^-100 again", x, 0, 1, -100);
        put(0, 0, 250);
        put(0, 0, -250);
        CHECKS.holds("0", x, 0, 0, 0);
        for (int r : WRONG) {
            due("set(" + r + ")", x.set(r, 1, 0), REFUSED);
            due("set(" + r + ") out of range", x.set(r, 1, 200), REFUSED);
        }
        due("RANGE still six times", x.count(3), 6);
    }

    private static void add() {
        begin();
        put(0, 1, 53);
        put(1, 1, 0);
        put(2, 3, 0);
        gives("1 + 3", x.add(3, 1, 2, false), 3, 1, 2, 0);
        gives("2^53 + 1, a tie to the even one below", x.add(3, 0, 1, false), 3, 1, 53, -1);
        gives("2^53 + 3, a tie to the even one above", x.add(3, 0, 2, false), 3, (1L << 51) + 1, 2, 1);
        put(4, -1, 53);
        put(5, -1, 0);
        put(6, -3, 0);
        gives("-2^53 - 1", x.add(3, 4, 5, false), 3, -1, 53, 1);
        gives("-2^53 - 3", x.add(3, 4, 6, false), 3, -(1L << 51) - 1, 2, -1);
        gives("2^53 - 2^53", x.add(3, 0, 4, false), 3, 0, 0, 0);
        gives("0 + 3", x.add(2, 3, 2, false), 2, 3, 0, 0);
        gives("3 + 3 into itself", x.add(2, 2, 2, false), 2, 3, 1, 0);
        put(0, 1, 24);
        put(2, 3, 0);
        gives("2^24 + 1 in 24 bits", x.add(3, 0, 1, true), 3, 1, 24, -1);
        gives("2^24 + 3 in 24 bits", x.add(3, 0, 2, true), 3, (1L << 22) + 1, 2, 1);
        gives("2^24 + 1 in 53 bits", x.add(3, 0, 1, false), 3, (1L << 24) + 1, 0, 0);
        due("a not NARROW", x.add(3, 3, 1, true), REFUSED);
        due("b not NARROW", x.add(3, 1, 3, true), REFUSED);
        gives("d need not be NARROW", x.add(3, 1, 1, true), 3, 1, 1, 0);
    }

    private static void addEdges() {
        begin();
        put(0, 1, 99);
        put(1, 1, -100);
        gives("far apart", x.add(2, 0, 1, false), 2, 1, 99, -1);
        due("2^99 + 2^99", x.add(2, 0, 0, false), RANGE);
        put(3, ALL, 47);
        put(4, 1, 46);
        due("a tie up to 2^100", x.add(2, 3, 4, false), RANGE);
        put(4, 1, 45);
        gives("below that tie", x.add(2, 3, 4, false), 2, ALL, 47, -1);
        put(4, (1L << 52) + 1, -152);
        put(5, -1, -100);
        due("2^-152 is left", x.add(2, 4, 5, false), RANGE);
        CHECKS.holds("after RANGE", x, 2, ALL, 47);
        due("LOST after RANGE", x.count(0), -1);
        due("RANGE three times", x.count(3), 3);
        put(4, ALL_NARROW, 76);
        put(5, 1, 75);
        due("a tie up to 2^100 in 24 bits", x.add(2, 4, 5, true), RANGE);
        gives("the same in 53 bits", x.add(2, 4, 5, false), 2, (1L << 25) - 1, 75, 0);
        for (int r : WRONG) {
            due("add d " + r, x.add(r, 0, 0, false), REFUSED);
            due("add a " + r, x.add(0, r, 0, false), REFUSED);
            due("add b " + r, x.add(0, 0, r, false), REFUSED);
        }
    }

    private static void subtract() {
        begin();
        put(0, 1, 0);
        put(1, 3, 0);
        put(2, 1, -54);
        put(3, 3, -55);
        gives("1 - 3", x.subtract(4, 0, 1, false), 4, -1, 1, 0);
        gives("3 - 1", x.subtract(4, 1, 0, false), 4, 1, 1, 0);
        gives("1 - 2^-54, a tie to 1", x.subtract(4, 0, 2, false), 4, 1, 0, 1);
        gives("1 - 3 * 2^-55", x.subtract(4, 0, 3, false), 4, ALL, -53, -1);
        gives("2^-54 - 1", x.subtract(4, 2, 0, false), 4, -1, 0, -1);
        gives("3 - 3", x.subtract(4, 1, 1, false), 4, 0, 0, 0);
        gives("0 - 3", x.subtract(1, 4, 1, false), 1, -3, 0, 0);
        put(2, 1, -25);
        gives("1 - 2^-25 in 24 bits", x.subtract(4, 0, 2, true), 4, 1, 0, 1);
        gives("1 - 2^-25 in 53 bits", x.subtract(4, 0, 2, false), 4, (1L << 25) - 1, -25, 0);
        due("a not NARROW", x.subtract(5, 4, 0, true), REFUSED);
        due("b not NARROW", x.subtract(5, 0, 4, true), REFUSED);
        put(5, (1L << 52) + 1, -152);
        put(6, 1, -100);
        due("2^-152 is left", x.subtract(7, 5, 6, false), RANGE);
        due("-2^-152 is left", x.subtract(7, 6, 5, false), RANGE);
        gives("nothing is left", x.subtract(5, 5, 5, false), 5, 0, 0, 0);
        put(5, 1, 99);
        put(6, -1, 99);
        due("2^99 + 2^99", x.subtract(7, 5, 6, false), RANGE);
        due("RANGE three times", x.count(3), 3);
        for (int r : WRONG) {
            due("subtract d " + r, x.subtract(r, 0, 0, false), REFUSED);
            due("subtract a " + r, x.subtract(0, r, 0, false), REFUSED);
            due("subtract b " + r, x.subtract(0, 0, r, false), REFUSED);
        }
    }

    private static void multiply() {
        begin();
        put(0, 3, 10);
        put(1, -5, -20);
        gives("3 * -5", x.multiply(2, 0, 1, false), 2, -15, -10, 0);
        gives("-5 * -5 into itself", x.multiply(1, 1, 1, false), 1, 25, -40, 0);
        gives("0", x.multiply(2, 0, 7, false), 2, 0, 0, 0);
        put(0, (1L << 27) + 1, 0);
        put(1, (1L << 27) - 1, 0);
        gives("(2^27 + 1)^2", x.multiply(2, 0, 0, false), 2, (1L << 26) + 1, 28, -1);
        gives("2^54 - 1, a tie", x.multiply(2, 0, 1, false), 2, 1, 54, 1);
        put(0, (1L << 12) + 1, 0);
        gives("(2^12 + 1)^2 in 24 bits, a tie", x.multiply(2, 0, 0, true), 2, (1L << 11) + 1, 13, -1);
        put(1, -(1L << 12) - 1, 0);
        gives("less than 0", x.multiply(2, 0, 1, true), 2, -(1L << 11) - 1, 13, 1);
        put(2, (1L << 24) + 1, 0);
        due("a not NARROW", x.multiply(3, 2, 0, true), REFUSED);
        due("b not NARROW", x.multiply(3, 0, 2, true), REFUSED);
        put(0, (1L << 27) - 1, -77);
        put(1, (1L << 27) + 1, -77);
        gives("rounded up to 2^-100", x.multiply(2, 0, 1, false), 2, 1, -100, 1);
        put(0, (1L << 27) - 1, 23);
        put(1, (1L << 27) + 1, 23);
        due("rounded up to 2^100", x.multiply(2, 0, 1, false), RANGE);
        put(0, 1, -100);
        put(1, 1, 99);
        gives("2^-100 * 2^99", x.multiply(2, 0, 1, false), 2, 1, -1, 0);
        due("2^-101", x.multiply(3, 0, 2, false), RANGE);
        due("2^-200", x.multiply(3, 0, 0, false), RANGE);
        due("2^198", x.multiply(3, 1, 1, false), RANGE);
        due("RANGE four times", x.count(3), 4);
        for (int r : WRONG) {
            due("multiply d " + r, x.multiply(r, 0, 0, false), REFUSED);
            due("multiply a " + r, x.multiply(0, r, 0, false), REFUSED);
            due("multiply b " + r, x.multiply(0, 0, r, false), REFUSED);
        }
    }

    private static void divide() {
        begin();
        put(0, 1, 0);
        put(1, 3, 0);
        put(2, -1, 0);
        put(3, 6, 0);
        gives("1 / 3", x.divide(4, 0, 1, false), 4, 6004799503160661L, -54, -1);
        gives("-1 / 3", x.divide(4, 2, 1, false), 4, -6004799503160661L, -54, 1);
        gives("1 / 3 in 24 bits", x.divide(5, 0, 1, true), 5, 11184811, -25, 1);
        gives("6 / 3", x.divide(5, 3, 1, false), 5, 1, 1, 0);
        gives("0 / 3", x.divide(5, 7, 1, false), 5, 0, 0, 0);
        gives("3 / 3 into itself", x.divide(3, 3, 3, false), 3, 1, 0, 0);
        due("1 / 0", x.divide(5, 0, 7, false), REFUSED);
        due("0 / 0", x.divide(5, 7, 7, false), REFUSED);
        due("1 / 0 in 24 bits", x.divide(5, 0, 7, true), REFUSED);
        due("a not NARROW", x.divide(5, 4, 0, true), REFUSED);
        due("b not NARROW", x.divide(5, 0, 4, true), REFUSED);
        put(5, 1, 99);
        put(6, 1, -1);
        due("2^100", x.divide(4, 5, 6, false), RANGE);
        put(5, 1, -100);
        due("2^-100 / 3", x.divide(4, 5, 1, false), RANGE);
        put(6, 1, 99);
        due("2^-199", x.divide(4, 5, 6, false), RANGE);
        put(5, -ALL, 47);
        put(6, ALL, -53);
        due("-2^100", x.divide(4, 5, 6, false), RANGE);
        put(5, -ALL, 46);
        gives("-2^99", x.divide(4, 5, 6, false), 4, -1, 99, 0);
        due("RANGE four times", x.count(3), 4);
        for (int r : WRONG) {
            due("divide d " + r, x.divide(r, 0, 0, false), REFUSED);
            due("divide a " + r, x.divide(0, r, 0, false), REFUSED);
            due("divide b " + r, x.divide(0, 0, r, false), REFUSED);
        }
    }

    private static void fuse() {
        begin();
        put(0, (1L << 27) + 1, 0);
        put(1, -1, 54);
        gives("(2^27 + 1)^2 - 2^54", x.fuse(2, 0, 0, 1), 2, (1L << 28) + 1, 0, 0);
        put(0, (1L << 27) + 1, -27);
        put(1, 1, 0);
        put(2, 1, 53);
        gives("2^53 + 1 + 2^-27: no tie", x.fuse(3, 0, 1, 2), 3, (1L << 52) + 1, 1, 1);
        put(0, ALL, -53);
        gives("2^53 + 1 - 2^-53: no tie", x.fuse(3, 0, 1, 2), 3, 1, 53, -1);
        gives("2^53 + 1: a tie", x.fuse(3, 1, 1, 2), 3, 1, 53, -1);
        put(0, 1, -100);
        gives("1 + 2^-200", x.fuse(3, 0, 0, 1), 3, 1, 0, -1);
        put(4, -1, -100);
        gives("1 - 2^-200", x.fuse(3, 0, 4, 1), 3, 1, 0, 1);
        put(5, -1, 0);
        gives("-1 + 2^-200", x.fuse(3, 0, 0, 5), 3, -1, 0, -1);
        put(0, 1, 50);
        put(4, -1, 99);
        gives("2^100 - 2^99", x.fuse(3, 0, 0, 4), 3, 1, 99, 0);
        due("2^100", x.fuse(3, 0, 0, 7), RANGE);
        put(4, -ALL, 47);
        gives("2^100 less its neighbour", x.fuse(3, 0, 0, 4), 3, 1, 47, 0);
        put(0, 1, 99);
        due("2^198", x.fuse(3, 0, 0, 4), RANGE);
        put(0, 1, -100);
        due("2^-200", x.fuse(3, 0, 0, 7), RANGE);
        gives("0 * 0 + 2^-100", x.fuse(3, 7, 7, 0), 3, 1, -100, 0);
        gives("0", x.fuse(3, 7, 0, 7), 3, 0, 0, 0);
        put(0, 3, 0);
        gives("3 * 3 + 3 into itself", x.fuse(0, 0, 0, 0), 0, 3, 2, 0);
        due("RANGE three times", x.count(3), 3);
        for (int r : WRONG) {
            due("fuse d " + r, x.fuse(r, 0, 0, 0), REFUSED);
            due("fuse a " + r, x.fuse(0, r, 0, 0), REFUSED);
            due("fuse b " + r, x.fuse(0, 0, r, 0), REFUSED);
            due("fuse c " + r, x.fuse(0, 0, 0, r), REFUSED);
        }
    }

    private static void fuseNarrow() {
        begin();
        put(0, (1L << 12) + 1, 0);
        put(1, -1, 24);
        gives("(2^12 + 1)^2 - 2^24", x.fuseNarrow(2, 0, 0, 1), 2, (1L << 13) + 1, 0, 0);
        put(1, 1, 24);
        put(2, 1, 0);
        gives("2^24 + 1, a tie", x.fuseNarrow(3, 1, 2, 2), 3, 1, 24, -1);
        put(3, (1L << 23) + 1, -23);
        gives("2^24 + 1 + 2^-23", x.fuseNarrow(4, 3, 2, 1), 4, (1L << 23) + 1, 1, 1);
        put(3, 1, -40);
        gives("beyond 53 bits", x.fuseNarrow(4, 3, 3, 1), 4, 1, 24, -1);
        put(4, (1L << 24) + 1, 0);
        due("a not NARROW", x.fuseNarrow(5, 4, 2, 2), REFUSED);
        due("b not NARROW", x.fuseNarrow(5, 2, 4, 2), REFUSED);
        due("c not NARROW", x.fuseNarrow(5, 2, 2, 4), REFUSED);
        gives("fuse takes them", x.fuse(5, 2, 2, 4), 5, (1L << 23) + 1, 1, 0);
        gives("d need not be NARROW", x.fuseNarrow(4, 2, 2, 2), 4, 1, 1, 0);
        put(0, ALL_NARROW, 52);
        put(1, 1, 24);
        put(2, 1, 75);
        due("a tie up to 2^100", x.fuseNarrow(5, 0, 1, 2), RANGE);
        put(2, 1, 74);
        gives("below that tie", x.fuseNarrow(5, 0, 1, 2), 5, ALL_NARROW, 76, -1);
        due("RANGE once", x.count(3), 1);
        for (int r : WRONG) {
            due("fuseNarrow d " + r, x.fuseNarrow(r, 0, 0, 0), REFUSED);
            due("fuseNarrow a " + r, x.fuseNarrow(0, r, 0, 0), REFUSED);
            due("fuseNarrow b " + r, x.fuseNarrow(0, 0, r, 0), REFUSED);
            due("fuseNarrow c " + r, x.fuseNarrow(0, 0, 0, r), REFUSED);
        }
    }

    private static void root() {
        begin();
        put(0, 2, 0);
        gives("root of 2", x.root(1, 0, false), 1, 6369051672525773L, -52, 1);
        gives("root of 2 in 24 bits", x.root(1, 0, true), 1, 11863283, -23, -1);
        gives("root of 0", x.root(1, 7, false), 1, 0, 0, 0);
        put(0, 9, -100);
        gives("an exact root into itself", x.root(0, 0, false), 0, 3, -50, 0);
        put(0, 1, -100);
        gives("root of 2^-100", x.root(1, 0, false), 1, 1, -50, 0);
        put(0, 1, -99);
        gives("root of 2^-99", x.root(1, 0, false), 1, 6369051672525773L, -102, 1);
        put(0, ALL, -53);
        gives("root of 1 - 2^-53", x.root(1, 0, false), 1, ALL, -53, -1);
        put(0, ALL, 47);
        gives("root of the greatest", x.root(1, 0, false), 1, ALL, -3, -1);
        due("not NARROW", x.root(1, 0, true), REFUSED);
        put(0, -4, 0);
        due("root of -4", x.root(1, 0, false), REFUSED);
        due("root of -4 in 24 bits", x.root(1, 0, true), REFUSED);
        put(0, -1, -100);
        due("root of -2^-100", x.root(1, 0, false), REFUSED);
        for (int r : WRONG) {
            due("root d " + r, x.root(r, 7, false), REFUSED);
            due("root a " + r, x.root(0, r, false), REFUSED);
        }
    }

    private static void remainder() {
        begin();
        put(0, 7, 0);
        put(1, 3, 0);
        put(2, -7, 0);
        put(3, -3, 0);
        gives("7 by 3", x.remainder(4, 0, 1), 4, 1, 0, 0);
        gives("-7 by 3", x.remainder(4, 2, 1), 4, -1, 0, 0);
        gives("7 by -3", x.remainder(4, 0, 3), 4, 1, 0, 0);
        gives("-7 by -3", x.remainder(4, 2, 3), 4, -1, 0, 0);
        gives("3 by 7", x.remainder(4, 1, 0), 4, 3, 0, 0);
        gives("-3 by -7", x.remainder(4, 3, 2), 4, -3, 0, 0);
        gives("3 by -3", x.remainder(4, 1, 3), 4, 0, 0, 0);
        gives("0 by 3", x.remainder(4, 7, 1), 4, 0, 0, 0);
        gives("7 by 7 into itself", x.remainder(0, 0, 0), 0, 0, 0, 0);
        put(0, 1, 99);
        put(1, ALL, 40);
        gives("2^99 by (2^53 - 1) * 2^40", x.remainder(4, 0, 1), 4, 1, 46, 0);
        put(0, 1, 0);
        put(1, 3, 0);
        gives("1 / 3", x.divide(5, 0, 1, false), 5, 6004799503160661L, -54, -1);
        gives("LOST becomes 0", x.remainder(4, 0, 5), 4, 1, -54, 0);
        put(0, (1L << 52) + 1, -152);
        put(1, 1, -100);
        due("2^-152 is left", x.remainder(4, 0, 1), RANGE);
        CHECKS.holds("after RANGE", x, 4, 1, -54);
        due("RANGE once", x.count(3), 1);
        for (int r : WRONG) {
            due("remainder d " + r, x.remainder(r, 0, 0), REFUSED);
            due("remainder a " + r, x.remainder(0, r, 0), REFUSED);
            due("remainder b " + r, x.remainder(0, 0, r), REFUSED);
        }
    }

    private static void remainderLimits() {
        begin();
        put(0, 1, 60);
        put(1, 1, 0);
        due("2^60 by 1", x.remainder(4, 0, 1), REFUSED);
        put(0, -1, 60);
        due("-2^60 by 1", x.remainder(4, 0, 1), REFUSED);
        put(0, ALL, 7);
        gives("just below 2^60 by 1", x.remainder(4, 0, 1), 4, 0, 0, 0);
        put(1, 3, 0);
        put(0, 1, 61);
        gives("2^61 by 3", x.remainder(4, 0, 1), 4, 1, 1, 0);
        put(0, 3, 60);
        due("3 * 2^60 by 3", x.remainder(4, 0, 1), REFUSED);
        put(0, ALL, 99 - 52);
        put(1, -1, -100);
        due("greatest by least", x.remainder(4, 0, 1), REFUSED);
        due("by 0", x.remainder(4, 0, 7), REFUSED);
        due("0 by 0", x.remainder(4, 7, 7), REFUSED);
        gives("0 by -2^-100", x.remainder(5, 7, 1), 5, 0, 0, 0);
        CHECKS.holds("after the refused ones", x, 4, 1, 1);
        due("no RANGE", x.count(3), 0);
    }

    private static void copy() {
        begin();
        put(0, (1L << 24) + 1, 0);
        put(1, (1L << 24) + 3, 0);
        put(2, -(1L << 24) - 3, 0);
        gives("itself", x.copy(3, 0, false), 3, (1L << 24) + 1, 0, 0);
        gives("2^24 + 1 in 24 bits", x.copy(3, 0, true), 3, 1, 24, -1);
        gives("2^24 + 3 in 24 bits", x.copy(3, 1, true), 3, (1L << 22) + 1, 2, 1);
        gives("-2^24 - 3 in 24 bits", x.copy(3, 2, true), 3, -(1L << 22) - 1, 2, -1);
        gives("NARROW already", x.copy(4, 3, true), 4, -(1L << 22) - 1, 2, 0);
        gives("into itself", x.copy(1, 1, true), 1, (1L << 22) + 1, 2, 1);
        gives("0", x.copy(4, 7, true), 4, 0, 0, 0);
        put(0, ALL, 47);
        due("up to 2^100", x.copy(4, 0, true), RANGE);
        gives("the greatest", x.copy(4, 0, false), 4, ALL, 47, 0);
        put(0, (1L << 25) - 3, 75);
        gives("a tie below the greatest", x.copy(5, 0, true), 5, (1L << 23) - 1, 77, -1);
        due("RANGE once", x.count(3), 1);
        for (int r : WRONG) {
            due("copy d " + r, x.copy(r, 0, false), REFUSED);
            due("copy a " + r, x.copy(0, r, false), REFUSED);
        }
    }

    private static void scale() {
        begin();
        put(0, -5, 3);
        gives("up", x.scale(1, 0, 7), 1, -5, 10, 0);
        gives("down", x.scale(1, 0, -7), 1, -5, -4, 0);
        gives("by 0 into itself", x.scale(0, 0, 0), 0, -5, 3, 0);
        put(0, 1, 99);
        gives("2^99 down to 2^-100", x.scale(1, 0, -199), 1, 1, -100, 0);
        due("below it", x.scale(1, 0, -200), RANGE);
        due("2^100", x.scale(1, 0, 1), RANGE);
        due("2^599", x.scale(1, 0, 500), RANGE);
        due("2^-401", x.scale(1, 0, -500), RANGE);
        CHECKS.holds("after RANGE", x, 1, 1, -100);
        gives("2^-100 up to 2^99", x.scale(1, 1, 199), 1, 1, 99, 0);
        gives("0 by 500", x.scale(2, 7, 500), 2, 0, 0, 0);
        gives("0 by -500", x.scale(2, 7, -500), 2, 0, 0, 0);
        due("0 by 501", x.scale(2, 7, 501), REFUSED);
        due("0 by -501", x.scale(2, 7, -501), REFUSED);
        due("by the least", x.scale(2, 0, Integer.MIN_VALUE), REFUSED);
        due("by the greatest", x.scale(2, 0, Integer.MAX_VALUE), REFUSED);
        put(3, ALL, 0);
        gives("all bits stay", x.scale(3, 3, -100), 3, ALL, -100, 0);
        due("RANGE four times", x.count(3), 4);
        for (int r : WRONG) {
            due("scale d " + r, x.scale(r, 0, 0), REFUSED);
            due("scale a " + r, x.scale(0, r, 0), REFUSED);
        }
    }

    private static void stepWide() {
        begin();
        put(0, 1, 0);
        put(1, -1, 0);
        gives("1 up", x.step(2, 0, true, false), 2, (1L << 52) + 1, -52, 0);
        gives("and down again", x.step(2, 2, false, false), 2, 1, 0, 0);
        gives("1 down", x.step(2, 0, false, false), 2, ALL, -53, 0);
        gives("and up again", x.step(2, 2, true, false), 2, 1, 0, 0);
        gives("-1 down", x.step(2, 1, false, false), 2, -(1L << 52) - 1, -52, 0);
        gives("-1 up", x.step(2, 1, true, false), 2, -ALL, -53, 0);
        put(3, 3, 0);
        gives("3 up", x.step(2, 3, true, false), 2, 3 * (1L << 51) + 1, -51, 0);
        gives("3 down", x.step(2, 3, false, false), 2, 3 * (1L << 51) - 1, -51, 0);
        gives("1 / 3", x.divide(2, 0, 3, false), 2, 6004799503160661L, -54, -1);
        gives("LOST becomes 0", x.step(4, 2, true, false), 4, 3002399751580331L, -53, 0);
        due("one rounded operation", x.count(2), 1);
        for (int r : WRONG) {
            due("step d " + r, x.step(r, 0, true, false), REFUSED);
            due("step a " + r, x.step(0, r, true, false), REFUSED);
        }
    }

    private static void stepNarrow() {
        begin();
        put(0, 1, 0);
        put(1, (1L << 24) + 1, -24);
        gives("1 up", x.step(2, 0, true, true), 2, (1L << 23) + 1, -23, 0);
        gives("1 down", x.step(2, 0, false, true), 2, ALL_NARROW, -24, 0);
        gives("between two, up", x.step(2, 1, true, true), 2, (1L << 23) + 1, -23, 0);
        gives("between two, down", x.step(2, 1, false, true), 2, 1, 0, 0);
        put(1, -(1L << 24) - 1, -24);
        gives("between two below 0, up", x.step(2, 1, true, true), 2, -1, 0, 0);
        gives("between two below 0, down", x.step(2, 1, false, true), 2, -(1L << 23) - 1, -23, 0);
        put(1, ALL, -53);
        gives("just below 1, up", x.step(2, 1, true, true), 2, 1, 0, 0);
        gives("just below 1, down", x.step(1, 1, false, true), 1, ALL_NARROW, -24, 0);
    }

    private static void stepEdges() {
        begin();
        put(0, 1, -100);
        put(1, -1, -100);
        for (int i = 0; i < 2; i++) {
            boolean narrow = i == 1;
            gives("0 up", x.step(2, 7, true, narrow), 2, 1, -100, 0);
            gives("0 down", x.step(2, 7, false, narrow), 2, -1, -100, 0);
            gives("2^-100 down", x.step(2, 0, false, narrow), 2, 0, 0, 0);
            gives("-2^-100 up", x.step(2, 1, true, narrow), 2, 0, 0, 0);
        }
        gives("2^-100 up", x.step(2, 0, true, false), 2, (1L << 52) + 1, -152, 0);
        gives("that down in 24 bits", x.step(2, 2, false, true), 2, 1, -100, 0);
        put(3, ALL, 47);
        put(4, -ALL, 47);
        due("greatest up", x.step(2, 3, true, false), RANGE);
        due("greatest up in 24 bits", x.step(2, 3, true, true), RANGE);
        due("least down", x.step(2, 4, false, false), RANGE);
        due("least down in 24 bits", x.step(2, 4, false, true), RANGE);
        CHECKS.holds("after RANGE", x, 2, 1, -100);
        due("RANGE four times", x.count(3), 4);
        gives("greatest down in 24 bits", x.step(2, 3, false, true), 2, ALL_NARROW, 76, 0);
        due("that up in 24 bits", x.step(2, 2, true, true), RANGE);
        gives("that up in 53 bits", x.step(2, 2, true, false), 2, (ALL_NARROW << 29) + 1, 47, 0);
        gives("least up", x.step(2, 4, true, false), 2, -(1L << 52) + 1, 48, 0);
    }

    private static void cubeRoot() {
        begin();
        put(0, 27, 0);
        put(1, 3, 0);
        due("27, 3", x.cubeRoot(0, 1), 1);
        x.step(2, 1, true, false);
        due("27, one PLACE above", x.cubeRoot(0, 2), 0);
        x.step(2, 1, false, false);
        due("27, one PLACE below", x.cubeRoot(0, 2), 0);
        x.step(3, 0, true, false);
        due("just above 27, 3", x.cubeRoot(3, 1), 1);
        x.step(2, 1, true, false);
        due("just above 27, one PLACE above 3", x.cubeRoot(3, 2), 1);
        x.step(2, 1, false, false);
        due("just above 27, one PLACE below 3", x.cubeRoot(3, 2), 0);
        x.step(3, 0, false, false);
        due("just below 27, one PLACE below 3", x.cubeRoot(3, 2), 1);
        put(0, -27, 0);
        put(1, -3, 0);
        due("-27, -3", x.cubeRoot(0, 1), 1);
        put(1, 3, 0);
        due("-27, 3", x.cubeRoot(0, 1), 0);
        due("27, 0", x.cubeRoot(0, 7), 0);
        due("0, 3", x.cubeRoot(7, 1), 0);
        due("0, 0", x.cubeRoot(7, 6), 1);
        put(0, 8, 0);
        put(1, ALL, -52);
        due("8, the neighbour below 2, whose PLACE is the finer one", x.cubeRoot(0, 1), 0);
        put(1, 2, 0);
        x.step(0, 0, false, false);
        due("just below 8, 2", x.cubeRoot(0, 1), 1);
        put(0, 1, -99);
        put(1, 1, -33);
        due("2^-99, 2^-33", x.cubeRoot(0, 1), 1);
        put(1, 1, 99);
        due("2^-99, 2^99", x.cubeRoot(0, 1), 0);
        put(1, 1, -100);
        due("2^-99, 2^-100", x.cubeRoot(0, 1), 0);
        due("no OPERATION", x.count(0), 0);
        for (int r : WRONG) {
            due("cubeRoot a " + r, x.cubeRoot(r, 7), REFUSED);
            due("cubeRoot r " + r, x.cubeRoot(7, r), REFUSED);
        }
    }

    /** The PLACES around a root that is no NUMBER: the two next to it are acceptable and no others. */
    private static void cubeRootBetween() {
        begin();
        long[][] below = {{2, 5674179970822794L}, {4, 7149018786131516L}};
        for (long[] pair : below) {
            for (int i = -2; i <= 3; i++) {
                int due = i == 0 || i == 1 ? 1 : 0;
                put(0, pair[0], 0);
                put(1, pair[1] + i, -52);
                due(pair[0] + ", " + i + " PLACES above", x.cubeRoot(0, 1), due);
                put(0, -pair[0], -90);
                put(1, -pair[1] - i, -82);
                due("the same below 0", x.cubeRoot(0, 1), due);
            }
        }
    }

    private static void compare() {
        begin();
        long[][] ascending = {{-ALL, 47}, {-3, 0}, {-1, 0}, {-1, -100}, {0, 0}, {1, -100}, {1, 0}, {3, 0}};
        for (int r = 0; r < 8; r++) {
            put(r, ascending[r][0], (int) ascending[r][1]);
        }
        for (int a = 0; a < 8; a++) {
            for (int b = 0; b < 8; b++) {
                due("compare(" + a + ", " + b + ")", x.compare(a, b), Integer.compare(a, b));
            }
        }
        put(0, 12, -2);
        due("3 and 3", x.compare(0, 7), 0);
        put(0, ALL, -53);
        due("just below 1, and 1", x.compare(0, 6), -1);
        for (int r : WRONG) {
            due("compare a " + r, x.compare(r, 0), -2);
            due("compare b " + r, x.compare(0, r), -2);
        }
        due("that is not RANGE", x.count(3), 0);
    }

    private static void oddAndExponent() {
        begin();
        put(0, 96, 4);
        CHECKS.holds("96 * 2^4", x, 0, 3, 9);
        put(1, -96, -4);
        CHECKS.holds("-96 * 2^-4", x, 1, -3, 1);
        put(2, -ALL, -150);
        CHECKS.holds("all bits", x, 2, -ALL, -150);
        put(3, -1L << 52, 0);
        CHECKS.holds("-2^52", x, 3, -1, 52);
        CHECKS.holds("0", x, 4, 0, 0);
        for (int r : WRONG) {
            due("odd " + r, x.odd(r), NONE);
            due("exponent " + r, x.exponent(r), NONE);
        }
    }

    private static void wholeOf(long m, int e, long due, long wideDue) {
        put(0, m, e);
        CHECKS.due("whole of " + m + " * 2^" + e, x.whole(0, false), due);
        CHECKS.due("wide whole of " + m + " * 2^" + e, x.whole(0, true), wideDue);
    }

    private static void whole() {
        begin();
        wholeOf(0, 0, 0, 0);
        wholeOf(7, -1, 3, 3);
        wholeOf(-7, -1, -3, -3);
        wholeOf(ALL, -53, 0, 0);
        wholeOf(-1, -100, 0, 0);
        wholeOf(-1, -1, 0, 0);
        wholeOf((1L << 31) - 1, 0, Integer.MAX_VALUE, Integer.MAX_VALUE);
        wholeOf(1, 31, Integer.MAX_VALUE, 1L << 31);
        wholeOf(-1, 31, Integer.MIN_VALUE, Integer.MIN_VALUE);
        wholeOf(-(1L << 31) - 1, 0, Integer.MIN_VALUE, Integer.MIN_VALUE - 1L);
        wholeOf((1L << 32) - 1, -1, Integer.MAX_VALUE, Integer.MAX_VALUE);
        wholeOf(ALL, 10, Integer.MAX_VALUE, ALL << 10);
        wholeOf(-ALL, 10, Integer.MIN_VALUE, -ALL << 10);
        wholeOf(1, 63, Integer.MAX_VALUE, Long.MAX_VALUE);
        wholeOf(-1, 63, Integer.MIN_VALUE, Long.MIN_VALUE);
        wholeOf(ALL, 47, Integer.MAX_VALUE, Long.MAX_VALUE);
        wholeOf(-ALL, 47, Integer.MIN_VALUE, Long.MIN_VALUE);
        wholeOf(-1, 62, Integer.MIN_VALUE, NONE);
        for (int r : WRONG) {
            due("whole " + r, x.whole(r, false), NONE);
            due("wide whole " + r, x.whole(r, true), NONE);
        }
    }

    private static void count() {
        begin();
        put(0, 1, 0);
        put(1, 3, 0);
        due("all NARROW", x.count(1), 8);
        x.divide(2, 0, 1, false);
        due("1 / 3 is not NARROW", x.count(1), 7);
        due("LOST -1", x.count(0), -1);
        due("one rounded", x.count(2), 1);
        x.divide(3, 0, 1, true);
        due("LOST 1", x.count(0), 1);
        due("still seven", x.count(1), 7);
        due("two rounded", x.count(2), 2);
        x.add(4, 0, 1, false);
        due("LOST 0", x.count(0), 0);
        due("still two rounded", x.count(2), 2);
        put(4, ALL_NARROW, 5);
        due("24 bits are NARROW", x.count(1), 7);
        put(4, ALL_NARROW + 2, 5);
        due("25 bits are not", x.count(1), 6);
        put(4, 0, 0);
        due("0 is", x.count(1), 7);
        x.divide(3, 0, 1, true);
        due("a scale that is RANGE", x.scale(5, 0, 400), RANGE);
        due("a set that is RANGE", x.set(5, 1, 200), RANGE);
        due("two RANGE", x.count(3), 2);
        due("LOST stays", x.count(0), 1);
        due("three rounded", x.count(2), 3);
        for (int what : new int[] {-1, 4, 8, Integer.MIN_VALUE, Integer.MAX_VALUE}) {
            due("count(" + what + ")", x.count(what), -100);
        }
    }

    private static void refusedChangesNothing() {
        begin();
        put(0, 1, 0);
        put(1, 3, 0);
        put(2, -1, 0);
        put(4, (1L << 24) + 1, 0);
        gives("1 / 3", x.divide(3, 0, 1, false), 3, 6004799503160661L, -54, -1);
        due("by 0", x.divide(3, 0, 7, false), REFUSED);
        due("root of -1", x.root(3, 2, false), REFUSED);
        due("remainder by 0", x.remainder(3, 0, 7), REFUSED);
        due("scale by 501", x.scale(3, 0, 501), REFUSED);
        due("not NARROW", x.add(3, 4, 0, true), REFUSED);
        due("set e 251", x.set(3, 1, 251), REFUSED);
        due("a out of 0 .. 7", x.copy(3, 8, false), REFUSED);
        CHECKS.holds("after the refused ones", x, 3, 6004799503160661L, -54);
        due("LOST", x.count(0), -1);
        due("NARROW ones", x.count(1), 6);
        due("rounded ones", x.count(2), 1);
        due("RANGE", x.count(3), 0);
    }
}
