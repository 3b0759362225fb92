/**
 * Real numbers of the binary formats with 53 and with 24 bits: operations that are rounded just once.
 * The document's promises say what each call does; the comments here say why the code does it so.
 */
public final class RoundedNumbers {
    public static final int DONE = 0;
    public static final int REFUSED = -1;
    public static final int RANGE = -2;
    public static final long NONE = -4611686018427387904L;

    private static final int REGISTERS = 8;
    private static final int WIDE_BITS = 53;
    private static final int NARROW_BITS = 24;
    private static final int SPARE_BITS = WIDE_BITS - NARROW_BITS;
    private static final long WIDE_END = 1L << WIDE_BITS;
    private static final long SPARE_MASK = (1L << SPARE_BITS) - 1;

    /** The exponent of the least size of a NUMBER, and the one of the size that is just too great. */
    private static final int LEAST_TOP = -100;
    private static final int END_TOP = 100;

    private static final int SET_LIMIT = 250;
    private static final int SCALE_LIMIT = 500;
    private static final int REMAINDER_LIMIT = 60;
    private static final long LEAST_INT = -2147483648L;
    private static final long GREATEST_INT = 2147483647L;
    private static final long LEAST_LONG = -9223372036854775808L;
    private static final long GREATEST_LONG = 9223372036854775807L;
    private static final int NO_ORDER = -2;
    private static final int NO_COUNT = -100;

    /** A register is mantissas[r] * 2^places[r], the mantissa with all of its 53 bits in use; 0 is 0 * 2^0. */
    private final long[] mantissas;
    private final int[] places;

    private int lost;
    private int roundedOperations;
    private int rangeCalls;

    /** Made once and used again by every call, so that no call makes an object. */
    private final Exact first;
    private final Exact second;
    private final Exact third;

    public RoundedNumbers() {
        mantissas = new long[REGISTERS];
        places = new int[REGISTERS];
        first = new Exact();
        second = new Exact();
        third = new Exact();
    }

    public int set(int d, long m, int e) {
        if (!isRegister(d) || m <= -WIDE_END || m >= WIDE_END || e < -SET_LIMIT || e > SET_LIMIT) {
            return REFUSED;
        }
        if (!isNumber(m, e)) {
            return outOfRange();
        }
        store(d, m, e);
        return DONE;
    }

    public int add(int d, int a, int b, boolean narrow) {
        if (!mayTake(d, a, b, narrow)) {
            return REFUSED;
        }
        first.hold(mantissas[a], places[a]);
        second.hold(mantissas[b], places[b]);
        return finish(d, Exact.sum(first, second), narrow);
    }

    public int subtract(int d, int a, int b, boolean narrow) {
        if (!mayTake(d, a, b, narrow)) {
            return REFUSED;
        }
        first.hold(mantissas[a], places[a]);
        second.hold(-mantissas[b], places[b]);
        return finish(d, Exact.sum(first, second), narrow);
    }

    public int multiply(int d, int a, int b, boolean narrow) {
        if (!mayTake(d, a, b, narrow)) {
            return REFUSED;
        }
        first.holdProduct(mantissas[a], mantissas[b], places[a] + places[b]);
        return finish(d, first, narrow);
    }

    public int divide(int d, int a, int b, boolean narrow) {
        if (!mayTake(d, a, b, narrow) || mantissas[b] == 0) {
            return REFUSED;
        }
        first.holdQuotient(mantissas[a], mantissas[b], places[a] - places[b]);
        return finish(d, first, narrow);
    }

    public int fuse(int d, int a, int b, int c) {
        return productPlus(d, a, b, c, false);
    }

    public int fuseNarrow(int d, int a, int b, int c) {
        return productPlus(d, a, b, c, true);
    }

    public int root(int d, int a, boolean narrow) {
        if (!mayTake(d, a, a, narrow) || mantissas[a] < 0) {
            return REFUSED;
        }
        first.holdRoot(mantissas[a], places[a]);
        return finish(d, first, narrow);
    }

    public int remainder(int d, int a, int b) {
        if (!mayTake(d, a, b, false) || mantissas[b] == 0 || isFarGreater(a, b)) {
            return REFUSED;
        }
        if (places[a] < places[b]) {
            first.hold(mantissas[a], places[a]);
        } else {
            long left = leftAfter(Math.abs(mantissas[a]), Math.abs(mantissas[b]), places[a] - places[b]);
            first.hold(mantissas[a] < 0 ? -left : left, places[b]);
        }
        return finish(d, first, false);
    }

    public int copy(int d, int a, boolean narrow) {
        if (!isRegister(d) || !isRegister(a)) {
            return REFUSED;
        }
        first.hold(mantissas[a], places[a]);
        return finish(d, first, narrow);
    }

    public int scale(int d, int a, int n) {
        if (!isRegister(d) || !isRegister(a) || n < -SCALE_LIMIT || n > SCALE_LIMIT) {
            return REFUSED;
        }
        first.hold(mantissas[a], places[a] + n);
        return finish(d, first, false);
    }

    public int step(int d, int a, boolean up, boolean narrow) {
        if (!isRegister(d) || !isRegister(a)) {
            return REFUSED;
        }
        long mantissa = mantissas[a];
        if (mantissa == 0) {
            return put(d, up ? 1 : -1, LEAST_TOP, 0);
        }
        boolean outward = up == (mantissa > 0);
        int spare = narrow ? SPARE_BITS : 0;
        long size = Math.abs(mantissa) >> spare;
        int place = places[a] + spare;
        if (outward) {
            size++;
        } else if (!narrow || isNarrow(a)) {
            // Below a power of 2 the neighbours lie twice as close, and below the least size there is 0 alone.
            if (Long.bitCount(size) > 1) {
                size--;
            } else if (topOf(a) == LEAST_TOP) {
                size = 0;
            } else {
                size = 2 * size - 1;
                place--;
            }
        }
        return put(d, mantissa < 0 ? -size : size, place, 0);
    }

    public int cubeRoot(int a, int r) {
        if (!isRegister(a) || !isRegister(r)) {
            return REFUSED;
        }
        if (Long.signum(mantissas[a]) != Long.signum(mantissas[r])) {
            return 0;
        }
        if (mantissas[r] == 0) {
            return 1;
        }
        // One PLACE is one unit of the mantissa, and cubes are in the same order as their roots.
        long size = Math.abs(mantissas[r]);
        boolean close = cubeOrder(size - 1, places[r], a) < 0 && cubeOrder(size + 1, places[r], a) > 0;
        return close ? 1 : 0;
    }

    public int compare(int a, int b) {
        if (!isRegister(a) || !isRegister(b)) {
            return NO_ORDER;
        }
        int sign = Long.signum(mantissas[a]);
        int otherSign = Long.signum(mantissas[b]);
        if (sign != otherSign) {
            return sign < otherSign ? -1 : 1;
        }
        if (sign != 0 && places[a] != places[b]) {
            return places[a] < places[b] ? -sign : sign;
        }
        return order(mantissas[a], mantissas[b]);
    }

    public long odd(int r) {
        if (!isRegister(r)) {
            return NONE;
        }
        return mantissas[r] == 0 ? 0 : mantissas[r] >> Long.numberOfTrailingZeros(mantissas[r]);
    }

    public long exponent(int r) {
        if (!isRegister(r)) {
            return NONE;
        }
        return mantissas[r] == 0 ? 0 : places[r] + Long.numberOfTrailingZeros(mantissas[r]);
    }

    public long whole(int r, boolean wide) {
        if (!isRegister(r)) {
            return NONE;
        }
        long least = wide ? LEAST_LONG : LEAST_INT;
        long greatest = wide ? GREATEST_LONG : GREATEST_INT;
        if (topOf(r) >= 63) {
            return mantissas[r] < 0 ? least : greatest;
        }
        long size = shifted(Math.abs(mantissas[r]), places[r]);
        long value = mantissas[r] < 0 ? -size : size;
        return Math.max(least, Math.min(greatest, value));
    }

    public int count(int what) {
        switch (what) {
            case 0:
                return lost;
            case 1:
                return narrowRegisters();
            case 2:
                return roundedOperations;
            case 3:
                return rangeCalls;
            default:
                return NO_COUNT;
        }
    }

    private static boolean isRegister(int r) {
        return r >= 0 && r < REGISTERS;
    }

    private boolean isNarrow(int r) {
        return (mantissas[r] & SPARE_MASK) == 0;
    }

    private boolean mayTake(int d, int a, int b, boolean narrow) {
        if (!isRegister(d) || !isRegister(a) || !isRegister(b)) {
            return false;
        }
        return !narrow || isNarrow(a) && isNarrow(b);
    }

    private int narrowRegisters() {
        int narrow = 0;
        for (int r = 0; r < REGISTERS; r++) {
            if (isNarrow(r)) {
                narrow++;
            }
        }
        return narrow;
    }

    /** The k for a size from 2^k to below 2^(k+1). */
    private int topOf(int r) {
        return places[r] + WIDE_BITS - 1;
    }

    private static int order(long x, long y) {
        return x < y ? -1 : x > y ? 1 : 0;
    }

    private static int bitLength(long size) {
        return 64 - Long.numberOfLeadingZeros(size);
    }

    /** Whether m * 2^e, with m of a size of at most 2^53, is a NUMBER. */
    private static boolean isNumber(long m, int e) {
        int top = e + bitLength(Math.abs(m)) - 1;
        return m == 0 || top >= LEAST_TOP && top < END_TOP;
    }

    private int outOfRange() {
        rangeCalls++;
        return RANGE;
    }

    private void store(int d, long m, int e) {
        long size = Math.abs(m);
        int up = WIDE_BITS - bitLength(size);
        // Rounding up may give 2^53, whose one bit too many is a 0.
        long mantissa = up < 0 ? size >> 1 : size << up;
        mantissas[d] = m < 0 ? -mantissa : mantissa;
        places[d] = m == 0 ? 0 : e - up;
    }

    private int put(int d, long m, int e, int newLost) {
        if (!isNumber(m, e)) {
            return outOfRange();
        }
        store(d, m, e);
        lost = newLost;
        if (newLost != 0) {
            roundedOperations++;
        }
        return DONE;
    }

    private int finish(int d, Exact result, boolean narrow) {
        int newLost = result.roundTo(narrow ? NARROW_BITS : WIDE_BITS);
        return put(d, result.sign < 0 ? -result.low : result.low, result.place, newLost);
    }

    private int productPlus(int d, int a, int b, int c, boolean narrow) {
        if (!mayTake(d, a, b, narrow) || !mayTake(d, a, c, narrow)) {
            return REFUSED;
        }
        first.holdProduct(mantissas[a], mantissas[b], places[a] + places[b]);
        second.hold(mantissas[c], places[c]);
        return finish(d, Exact.sum(first, second), narrow);
    }

    /** Whether a is 2^60 times as great as b or more, in size; b is not 0. */
    private boolean isFarGreater(int a, int b) {
        int apart = places[a] - places[b];
        if (mantissas[a] == 0 || apart < REMAINDER_LIMIT) {
            return false;
        }
        return apart > REMAINDER_LIMIT || Math.abs(mantissas[a]) >= Math.abs(mantissas[b]);
    }

    /** The remainder of size * 2^doublings by a divisor above 0, both sizes below 2^53. */
    private static long leftAfter(long size, long divisor, int doublings) {
        if (divisor <= 0) {
            return 0;
        }
        long left = size % divisor;
        // Ten bits at a time: what is left has at most 53 and must stay below 2^63.
        for (int open = doublings; open > 0; open -= 10) {
            left = (left << Math.min(open, 10)) % divisor;
        }
        return left;
    }

    /** size * 2^place truncated to a whole number; it is below 2^63. */
    private static long shifted(long size, int place) {
        if (place >= 0) {
            return size << place;
        }
        return place > -64 ? size >> -place : 0;
    }

    /** The order of the cube of edge * 2^place and the size of register a; the edge is above 0 and at most 2^53. */
    private int cubeOrder(long edge, int place, int a) {
        // The cube has up to 160 bits: the square's upper and lower 53 bits are multiplied one by one.
        first.holdProduct(edge, edge, 0);
        long upper = first.high << (64 - WIDE_BITS) | first.low >>> WIDE_BITS;
        long lower = first.low & (WIDE_END - 1);
        first.holdProduct(upper, edge, 3 * place + WIDE_BITS);
        second.holdProduct(lower, edge, 3 * place);
        third.hold(Math.abs(mantissas[a]), places[a]);
        return Exact.sum(first, second).sizeOrder(third);
    }

    /**
     * A real number before it is rounded: sign * (high * 2^64 + low + rest) * 2^place, high and low without a sign.
     * The rest is 0 or, with more, above 0 and below 1. Rounding need not know it better, as a number with a rest
     * always has more bits than are kept.
     */
    private static final class Exact {
        /** Room for the carry of a sum, and high stays above 0. */
        private static final int LIFTED_BITS = 126;
        private static final int ONE_WORD_BITS = 62;
        private static final int HALF_WORD = 32;
        private static final long HALF_MASK = (1L << HALF_WORD) - 1;

        int sign;
        long high;
        long low;
        int place;
        boolean more;

        void hold(long m, int e) {
            sign = Long.signum(m);
            high = 0;
            low = Math.abs(m);
            place = e;
            more = false;
        }

        /** m * n * 2^e, m and n of a size of at most 2^53. */
        void holdProduct(long m, long n, int e) {
            long x = Math.abs(m);
            long y = Math.abs(n);
            long xUpper = x >>> HALF_WORD;
            long xLower = x & HALF_MASK;
            long yUpper = y >>> HALF_WORD;
            long yLower = y & HALF_MASK;
            long middle = xUpper * yLower + xLower * yUpper + (xLower * yLower >>> HALF_WORD);
            sign = Long.signum(m) * Long.signum(n);
            high = xUpper * yUpper + (middle >>> HALF_WORD);
            low = x * y;
            place = e;
            more = false;
        }

        /** m / n * 2^e, m and n with 53 bits each, or m 0; n is not 0. */
        void holdQuotient(long m, long n, int e) {
            long divisor = Math.abs(n);
            if (divisor == 0) {
                return;
            }
            long quotient = Math.abs(m) / divisor;
            long left = Math.abs(m) % divisor;
            // Ten bits at a time: what is left has at most 53 and must stay below 2^63.
            for (int i = 0; i < 6; i++) {
                left <<= 10;
                quotient = quotient << 10 | left / divisor;
                left %= divisor;
            }
            sign = Long.signum(m) * Long.signum(n);
            high = 0;
            low = quotient;
            place = e - 60;
            more = left != 0;
        }

        /** The square root of m * 2^e, m above 0 with 53 bits, or 0. */
        void holdRoot(long m, int e) {
            // The place of the square must be even for the root to have one.
            long square = m << (e & 1);
            long root = 0;
            long left = 0;
            for (int pair = 26; pair >= -29; pair--) {
                long digits = pair >= 0 ? square >> (2 * pair) & 3 : 0;
                long trial = root << 2 | 1;
                left = left << 2 | digits;
                root <<= 1;
                if (left >= trial) {
                    left -= trial;
                    root |= 1;
                }
            }
            sign = Long.signum(m);
            high = 0;
            low = root;
            place = (e - (e & 1)) / 2 - 29;
            more = left != 0;
        }

        /** The sum of two numbers without a rest, held in one of them; the other one is used up. */
        static Exact sum(Exact x, Exact y) {
            if (y.sign == 0) {
                return x;
            }
            if (x.sign == 0) {
                return y;
            }
            if (x.sizeOrder(y) >= 0) {
                x.takeLesser(y);
                return x;
            }
            y.takeLesser(x);
            return y;
        }

        /** The order of the sizes of two numbers that are not 0; both are lifted by it. */
        int sizeOrder(Exact other) {
            lift();
            other.lift();
            if (place != other.place) {
                return place < other.place ? -1 : 1;
            }
            if (high != other.high) {
                return high < other.high ? -1 : 1;
            }
            if (low != other.low) {
                return Long.compareUnsigned(low, other.low) < 0 ? -1 : 1;
            }
            return more == other.more ? 0 : more ? 1 : -1;
        }

        private void takeLesser(Exact lesser) {
            lesser.shiftDown(place - lesser.place);
            more = lesser.more;
            if (sign == lesser.sign) {
                low += lesser.low;
                high += lesser.high + (Long.compareUnsigned(low, lesser.low) < 0 ? 1 : 0);
                return;
            }
            high -= lesser.high + (Long.compareUnsigned(low, lesser.low) < 0 ? 1 : 0);
            low -= lesser.low;
            if (more) {
                // Less a rest is less 1 and plus another rest.
                high -= low == 0 ? 1 : 0;
                low--;
            }
            if (high == 0 && low == 0) {
                sign = 0;
            }
        }

        /** Rounds to so many bits, 53 at most: the number is then sign * low * 2^place. The answer is its LOST. */
        int roundTo(int bits) {
            shiftDown(length() - ONE_WORD_BITS);
            int dropped = length() - bits;
            if (dropped <= 0) {
                return 0;
            }
            long half = 1L << (dropped - 1);
            long tail = low & (2 * half - 1);
            boolean isExact = tail == 0 && !more;
            low >>>= dropped;
            place += dropped;
            boolean outward = tail > half || tail == half && (more || (low & 1) == 1);
            more = false;
            if (outward) {
                low++;
                return sign;
            }
            return isExact ? 0 : -sign;
        }

        private int length() {
            return high != 0 ? 128 - Long.numberOfLeadingZeros(high) : 64 - Long.numberOfLeadingZeros(low);
        }

        private void lift() {
            int up = LIFTED_BITS - length();
            if (up < 0) {
                // Only a sum whose carry took one bit more.
                shiftDown(-up);
            } else {
                shiftUp(up);
            }
        }

        /** Only for a number without a rest, or by no bits: a rest could not be shifted along. */
        private void shiftUp(int bits) {
            if (bits >= 64) {
                high = low << (bits - 64);
                low = 0;
            } else if (bits > 0) {
                high = high << bits | low >>> (64 - bits);
                low <<= bits;
            }
            place -= bits;
        }

        /** Bits that fall out go into the rest; nothing is done for bits below 1. */
        private void shiftDown(int bits) {
            if (bits <= 0) {
                return;
            }
            if (bits >= 128) {
                more |= high != 0 || low != 0;
                low = 0;
                high = 0;
            } else if (bits > 64) {
                more |= low != 0 || (high << (128 - bits)) != 0;
                low = high >>> (bits - 64);
                high = 0;
            } else if (bits == 64) {
                more |= low != 0;
                low = high;
                high = 0;
            } else {
                more |= (low << (64 - bits)) != 0;
                low = low >>> bits | high << (64 - bits);
                high >>>= bits;
            }
            place += bits;
        }
    }
}
