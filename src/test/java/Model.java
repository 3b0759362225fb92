import java.math.BigInteger;

/**
 * The document once more, by other means: a register is a whole number of units of 2^-200, and every
 * result is a fraction of two whole numbers before it is rounded. Slow and plain, to be compared with.
 */
final class Model {
    private static final int UNIT = 200;
    private static final BigInteger ONE = BigInteger.ONE.shiftLeft(UNIT);
    private static final BigInteger LEAST = BigInteger.ONE.shiftLeft(UNIT - 100);
    private static final BigInteger END = BigInteger.ONE.shiftLeft(UNIT + 100);
    private static final int DONE = 0;
    private static final int REFUSED = -1;
    private static final int RANGE = -2;
    private static final long NONE = -4611686018427387904L;

    private final BigInteger[] registers = new BigInteger[8];
    private int lost;
    private int rounded;
    private int ranges;

    Model() {
        for (int i = 0; i < 8; i++) {
            registers[i] = BigInteger.ZERO;
        }
    }

    private static boolean known(int... numbers) {
        for (int number : numbers) {
            if (number < 0 || number > 7) {
                return false;
            }
        }
        return true;
    }

    private static boolean fits(BigInteger v, int bits) {
        return v.signum() == 0 || v.abs().bitLength() - v.abs().getLowestSetBit() <= bits;
    }

    private boolean taken(boolean narrow, int... numbers) {
        for (int number : numbers) {
            if (narrow && !fits(registers[number], 24)) {
                return false;
            }
        }
        return true;
    }

    private static boolean inRange(BigInteger v) {
        return v.signum() == 0 || v.abs().compareTo(LEAST) >= 0 && v.abs().compareTo(END) < 0;
    }

    private int range() {
        ranges++;
        return RANGE;
    }

    /** Rounds top / bottom (in units) and puts it into register d. */
    private int operation(int d, BigInteger top, BigInteger bottom, int bits) {
        int sign = top.signum() * bottom.signum();
        if (sign == 0) {
            return put(d, BigInteger.ZERO, 0);
        }
        BigInteger n = top.abs();
        BigInteger m = bottom.abs();
        int k = n.bitLength() - m.bitLength();
        if (up(n, -k).compareTo(up(m, k)) < 0) {
            k--;
        }
        int place = k - bits + 1;
        BigInteger divisor = up(m, place);
        BigInteger[] parts = up(n, -place).divideAndRemainder(divisor);
        int half = parts[1].shiftLeft(1).compareTo(divisor);
        boolean away = half > 0 || half == 0 && parts[0].testBit(0);
        BigInteger size = away ? parts[0].add(BigInteger.ONE) : parts[0];
        int loss = parts[1].signum() == 0 ? 0 : away ? sign : -sign;
        if (place < 0 && size.getLowestSetBit() < -place) {
            // With 53 bits and a part below one unit, it is far below 2^-100.
            return range();
        }
        BigInteger value = place < 0 ? size.shiftRight(-place) : size.shiftLeft(place);
        return put(d, sign < 0 ? value.negate() : value, loss);
    }

    /** n * 2^by, or n itself where by is below 0: the other side of a fraction takes those. */
    private static BigInteger up(BigInteger n, int by) {
        return by > 0 ? n.shiftLeft(by) : n;
    }

    private int put(int d, BigInteger v, int loss) {
        if (!inRange(v)) {
            return range();
        }
        registers[d] = v;
        lost = loss;
        rounded += loss == 0 ? 0 : 1;
        return DONE;
    }

    int set(int d, long m, int e) {
        if (!known(d) || m < -9007199254740991L || m > 9007199254740991L || e < -250 || e > 250) {
            return REFUSED;
        }
        BigInteger finer = BigInteger.valueOf(m).shiftLeft(UNIT + e + 300);
        BigInteger size = finer.abs();
        if (m != 0 && (size.compareTo(LEAST.shiftLeft(300)) < 0 || size.compareTo(END.shiftLeft(300)) >= 0)) {
            return range();
        }
        registers[d] = finer.shiftRight(300);
        return DONE;
    }

    int add(int d, int a, int b, boolean narrow) {
        if (!known(d, a, b) || !taken(narrow, a, b)) {
            return REFUSED;
        }
        return operation(d, registers[a].add(registers[b]), BigInteger.ONE, narrow ? 24 : 53);
    }

    int subtract(int d, int a, int b, boolean narrow) {
        if (!known(d, a, b) || !taken(narrow, a, b)) {
            return REFUSED;
        }
        return operation(d, registers[a].subtract(registers[b]), BigInteger.ONE, narrow ? 24 : 53);
    }

    int multiply(int d, int a, int b, boolean narrow) {
        if (!known(d, a, b) || !taken(narrow, a, b)) {
            return REFUSED;
        }
        return operation(d, registers[a].multiply(registers[b]), ONE, narrow ? 24 : 53);
    }

    int divide(int d, int a, int b, boolean narrow) {
        if (!known(d, a, b) || !taken(narrow, a, b) || registers[b].signum() == 0) {
            return REFUSED;
        }
        return operation(d, registers[a].multiply(ONE), registers[b], narrow ? 24 : 53);
    }

    int fuse(int d, int a, int b, int c, boolean narrow) {
        if (!known(d, a, b, c) || !taken(narrow, a, b, c)) {
            return REFUSED;
        }
        BigInteger product = registers[a].multiply(registers[b]);
        return operation(d, product.add(registers[c].multiply(ONE)), ONE, narrow ? 24 : 53);
    }

    int root(int d, int a, boolean narrow) {
        if (!known(d, a) || !taken(narrow, a) || registers[a].signum() < 0) {
            return REFUSED;
        }
        // The root in units of 2^-500; half a unit more stands for what is cut off there.
        BigInteger square = registers[a].shiftLeft(800);
        BigInteger root = square.sqrt();
        BigInteger twice = root.shiftLeft(1);
        BigInteger marked = root.multiply(root).equals(square) ? twice : twice.add(BigInteger.ONE);
        return operation(d, marked, BigInteger.ONE.shiftLeft(301), narrow ? 24 : 53);
    }

    int remainder(int d, int a, int b) {
        if (!known(d, a, b) || registers[b].signum() == 0) {
            return REFUSED;
        }
        if (registers[a].abs().compareTo(registers[b].abs().shiftLeft(60)) >= 0) {
            return REFUSED;
        }
        BigInteger left = registers[a].remainder(registers[b]);
        if (!fits(left, 53)) {
            throw new IllegalStateException("a remainder that is not exact");
        }
        return put(d, left, 0);
    }

    int copy(int d, int a, boolean narrow) {
        if (!known(d, a)) {
            return REFUSED;
        }
        return operation(d, registers[a], BigInteger.ONE, narrow ? 24 : 53);
    }

    int scale(int d, int a, int n) {
        if (!known(d, a) || n < -500 || n > 500) {
            return REFUSED;
        }
        return operation(d, registers[a].shiftLeft(500 + n), BigInteger.ONE.shiftLeft(500), 53);
    }

    int step(int d, int a, boolean up, boolean narrow) {
        if (!known(d, a)) {
            return REFUSED;
        }
        BigInteger from = up ? registers[a] : registers[a].negate();
        BigInteger next = above(from, narrow ? 24 : 53);
        return put(d, up ? next : next.negate(), 0);
    }

    /** The least number of so many bits that is greater than v, among 0 and the sizes of at least 2^-100. */
    private static BigInteger above(BigInteger v, int bits) {
        if (v.signum() == 0) {
            return LEAST;
        }
        if (v.equals(LEAST.negate())) {
            return BigInteger.ZERO;
        }
        // One unit more is not yet a number of so many bits, and the ceiling of that is the neighbour.
        BigInteger more = v.add(BigInteger.ONE);
        int spare = more.abs().bitLength() - bits;
        BigInteger ceiling = more.negate().shiftRight(spare).negate();
        return ceiling.shiftLeft(spare);
    }

    int cubeRoot(int a, int r) {
        if (!known(a, r)) {
            return REFUSED;
        }
        if (registers[r].signum() == 0) {
            return registers[a].signum() == 0 ? 1 : 0;
        }
        BigInteger place = BigInteger.ONE.shiftLeft(registers[r].abs().bitLength() - 53);
        BigInteger cube = registers[a].shiftLeft(2 * UNIT);
        boolean above = registers[r].subtract(place).pow(3).compareTo(cube) < 0;
        boolean below = registers[r].add(place).pow(3).compareTo(cube) > 0;
        return above && below ? 1 : 0;
    }

    int compare(int a, int b) {
        return known(a, b) ? registers[a].compareTo(registers[b]) : -2;
    }

    long odd(int r) {
        if (!known(r)) {
            return NONE;
        }
        BigInteger v = registers[r];
        return v.signum() == 0 ? 0 : v.shiftRight(v.getLowestSetBit()).longValueExact();
    }

    long exponent(int r) {
        if (!known(r)) {
            return NONE;
        }
        BigInteger v = registers[r];
        return v.signum() == 0 ? 0 : v.getLowestSetBit() - UNIT;
    }

    long whole(int r, boolean wide) {
        if (!known(r)) {
            return NONE;
        }
        BigInteger greatest = BigInteger.valueOf(wide ? Long.MAX_VALUE : Integer.MAX_VALUE);
        BigInteger least = BigInteger.valueOf(wide ? Long.MIN_VALUE : Integer.MIN_VALUE);
        return registers[r].divide(ONE).min(greatest).max(least).longValueExact();
    }

    int count(int what) {
        switch (what) {
            case 0:
                return lost;
            case 1:
                int narrow = 0;
                for (BigInteger register : registers) {
                    narrow += fits(register, 24) ? 1 : 0;
                }
                return narrow;
            case 2:
                return rounded;
            case 3:
                return ranges;
            default:
                return -100;
        }
    }
}
