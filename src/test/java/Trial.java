import java.util.function.ToIntFunction;
import java.util.function.ToLongFunction;

/**
 * What the tests of single sentences share: one call on a new object whose registers are given, with its answer and
 * with all that it may and may not change. Each is made three times, with LOST -1, 0 and 1 before the call.
 */
abstract class Trial {
    static final int REFUSED = RoundedNumbers.REFUSED;
    static final int RANGE = RoundedNumbers.RANGE;
    static final long NONE = RoundedNumbers.NONE;
    static final long ALL = (1L << 53) - 1;
    static final long ALL_NARROW = (1L << 24) - 1;
    static final int[] SIGNS = {1, -1};
    static final boolean[] BOTH = {false, true};

    /** The register numbers just out of 0 .. 7, and the ones farthest out. */
    static final int[] WRONG = {-1, 8, Integer.MIN_VALUE, Integer.MAX_VALUE};

    /** What the registers hold that are not given: no two are alike, and 2 and 3 are not NARROW. */
    private static final long[][] MARKS = {
        {17, -3}, {-19, 2}, {(1L << 30) + 1, -7}, {ALL, -60}, {23, 0}, {-29, 5}, {-31, -31}, {37, 11}};
    private static final int[] LOST_BEFORE = {-1, 0, 1};

    /** A state is 8 times odd, 8 times exponent, and the four counts. */
    private static final int STATE = 20;
    private static final int EXPONENTS = 8;
    private static final int COUNTS = 16;

    private final Checks checks = new Checks();
    private String sentence = "";
    private long[] given = {};

    abstract void sentences();

    final void run() {
        sentences();
        checks.end(getClass().getName());
    }

    /** Names the sentence that the next calls are about. */
    final void sentence(String text) {
        sentence = text;
    }

    /** Registers 0, 1, .. hold the given m * 2^e before the next calls. */
    final void given(long... pairs) {
        given = pairs;
    }

    static int bitsOf(boolean narrow) {
        return narrow ? 24 : 53;
    }

    static long allOf(int bits) {
        return (1L << bits) - 1;
    }

    static long halfOf(int bits) {
        return 1L << (bits - 1);
    }

    final void due(String what, long got, long want) {
        checks.due(sentence + ": " + what, got, want);
    }

    /** REFUSED, and nothing changes. */
    final void refused(String what, ToIntFunction<RoundedNumbers> call) {
        answers(what, x -> call.applyAsInt(x), REFUSED);
    }

    /** An answer with which nothing changes. */
    final void answers(String what, ToLongFunction<RoundedNumbers> call, long due) {
        for (int lost : LOST_BEFORE) {
            RoundedNumbers x = object(lost);
            long[] before = stateOf(x);
            due(what, call.applyAsLong(x), due);
            same(what, stateOf(x), before);
        }
    }

    /** RANGE, and nothing changes but the number of those calls. */
    final void range(String what, ToIntFunction<RoundedNumbers> call) {
        for (int lost : LOST_BEFORE) {
            RoundedNumbers x = object(lost);
            long[] after = stateOf(x);
            after[COUNTS + 3]++;
            due(what, call.applyAsInt(x), RANGE);
            same(what, stateOf(x), after);
        }
    }

    /** DONE: register d becomes m * 2^e, and LOST is as said. */
    final void done(String what, ToIntFunction<RoundedNumbers> call, int d, long m, int e, int lost) {
        for (int before : LOST_BEFORE) {
            RoundedNumbers x = object(before);
            long[] after = stateOf(x);
            become(after, d, m, e);
            after[COUNTS] = lost;
            after[COUNTS + 2] += lost == 0 ? 0 : 1;
            due(what, call.applyAsInt(x), RoundedNumbers.DONE);
            same(what, stateOf(x), after);
        }
    }

    /** DONE by a call that is no OPERATION: LOST stays. */
    final void doneBySet(String what, ToIntFunction<RoundedNumbers> call, int d, long m, int e) {
        for (int before : LOST_BEFORE) {
            RoundedNumbers x = object(before);
            long[] after = stateOf(x);
            become(after, d, m, e);
            due(what, call.applyAsInt(x), RoundedNumbers.DONE);
            same(what, stateOf(x), after);
        }
    }

    /** A new object with the given registers and the given LOST, and with one RANGE behind it. */
    private RoundedNumbers object(int lost) {
        RoundedNumbers x = new RoundedNumbers();
        if (lost != 0) {
            // 2^53 + 1 is rounded down to the even one, -2^53 - 1 up.
            x.set(0, -lost, 53);
            x.set(1, -lost, 0);
            x.add(0, 0, 1, false);
        }
        due("LOST before", x.count(0), lost);
        due("RANGE before", x.set(0, 1, 100), RANGE);
        for (int r = 0; r < 8; r++) {
            boolean isGiven = 2 * r < given.length;
            long m = isGiven ? given[2 * r] : MARKS[r][0];
            long e = isGiven ? given[2 * r + 1] : MARKS[r][1];
            due("given " + m + " * 2^" + e, x.set(r, m, (int) e), RoundedNumbers.DONE);
        }
        return x;
    }

    private static long[] stateOf(RoundedNumbers x) {
        long[] state = new long[STATE];
        for (int r = 0; r < 8; r++) {
            state[r] = x.odd(r);
            state[EXPONENTS + r] = x.exponent(r);
        }
        for (int what = 0; what < 4; what++) {
            state[COUNTS + what] = x.count(what);
        }
        return state;
    }

    private static void become(long[] state, int d, long m, int e) {
        int even = m == 0 ? 0 : Long.numberOfTrailingZeros(m);
        state[d] = m >> even;
        state[EXPONENTS + d] = m == 0 ? 0 : e + even;
        state[COUNTS + 1] = 0;
        for (int r = 0; r < 8; r++) {
            state[COUNTS + 1] += Math.abs(state[r]) <= ALL_NARROW ? 1 : 0;
        }
    }

    private void same(String what, long[] got, long[] want) {
        for (int i = 0; i < STATE; i++) {
            String name = i < EXPONENTS ? "odd(" + i : i < COUNTS ? "exponent(" + (i - EXPONENTS) : "count(" + (i - COUNTS);
            due(what + ", then " + name + ")", got[i], want[i]);
        }
    }
}
