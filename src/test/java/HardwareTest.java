import java.util.Random;

/**
 * Java's double and float are the two formats, and their operations are rounded once as the document
 * rounds: wherever a result is within its range, the program must say the same.
 */
public final class HardwareTest {
    private static final int ROUNDS = 200000;

    private final Checks checks = new Checks();
    private final Random random = new Random(53024L);

    public static void main(String[] args) {
        HardwareTest test = new HardwareTest();
        for (int i = 0; i < ROUNDS; i++) {
            test.wide();
            test.narrow();
        }
        test.checks.end("HardwareTest");
    }

    private void wide() {
        RoundedNumbers x = new RoundedNumbers();
        double a = anyDouble();
        double b = anyDouble();
        double c = random.nextInt(3) == 0 ? -a * b : anyDouble();
        if (!inRange(c)) {
            return;
        }
        load(x, 0, a);
        load(x, 1, b);
        load(x, 2, c);
        same(x, "add " + a + " " + b, x.add(3, 0, 1, false), a + b);
        same(x, "subtract " + a + " " + b, x.subtract(3, 0, 1, false), a - b);
        same(x, "multiply " + a + " " + b, x.multiply(3, 0, 1, false), a * b);
        same(x, "divide " + a + " " + b, x.divide(3, 0, 1, false), a / b);
        same(x, "fuse " + a + " " + b + " " + c, x.fuse(3, 0, 1, 2), Math.fma(a, b, c));
        if (a > 0) {
            same(x, "root " + a, x.root(3, 0, false), Math.sqrt(a));
        }
        if (Math.abs(a / b) < 0x1p59) {
            same(x, "remainder " + a + " " + b, x.remainder(3, 0, 1), a % b);
        }
        same(x, "copy " + a, x.copy(3, 0, true), (float) a);
        if (Math.abs(a) > 0x1p-99) {
            same(x, "step up " + a, x.step(3, 0, true, false), Math.nextUp(a));
            same(x, "step down " + a, x.step(3, 0, false, false), Math.nextDown(a));
        }
        checks.due("compare " + a + " " + b, x.compare(0, 1), Double.compare(a, b));
        checks.due("whole " + a, x.whole(0, false), (int) a);
        checks.due("wide whole " + a, x.whole(0, true), (long) a);
    }

    private void narrow() {
        RoundedNumbers x = new RoundedNumbers();
        float a = (float) anyDouble();
        float b = (float) anyDouble();
        float c = random.nextInt(3) == 0 ? -a * b : (float) anyDouble();
        if (!inRange(a) || !inRange(b) || !inRange(c)) {
            return;
        }
        load(x, 0, a);
        load(x, 1, b);
        load(x, 2, c);
        same(x, "add " + a + " " + b, x.add(3, 0, 1, true), a + b);
        same(x, "subtract " + a + " " + b, x.subtract(3, 0, 1, true), a - b);
        same(x, "multiply " + a + " " + b, x.multiply(3, 0, 1, true), notZero(a * b));
        same(x, "divide " + a + " " + b, x.divide(3, 0, 1, true), notZero(a / b));
        same(x, "fuseNarrow " + a + " " + b + " " + c, x.fuseNarrow(3, 0, 1, 2), Math.fma(a, b, c));
        if (a > 0) {
            same(x, "root " + a, x.root(3, 0, true), (float) Math.sqrt(a));
        }
        if (Math.abs(a) > 0x1p-99f) {
            same(x, "step up " + a, x.step(3, 0, true, true), Math.nextUp(a));
            same(x, "step down " + a, x.step(3, 0, false, true), Math.nextDown(a));
        }
    }

    private static boolean inRange(double v) {
        return Math.abs(v) >= 0x1p-100 && Math.abs(v) < 0x1p100;
    }

    /** A float becomes 0 below 2^-149, where the document says RANGE. */
    private static double notZero(float v) {
        return v == 0 ? 0x1p-150 : v;
    }

    private double anyDouble() {
        long m = random.nextLong() >>> (11 + random.nextInt(3) * random.nextInt(27));
        int spread = random.nextInt(4) == 0 ? 95 : 30;
        double v = Math.scalb(1 + (double) (m & 0xfffffffffffffL) * 0x1p-52, random.nextInt(2 * spread) - spread);
        return random.nextBoolean() ? v : -v;
    }

    private void load(RoundedNumbers x, int d, double v) {
        int e = Math.getExponent(v) - 52;
        long m = (long) Math.scalb(v, -e);
        checks.due("set " + v, x.set(d, m, e), RoundedNumbers.DONE);
    }

    private void same(RoundedNumbers x, String what, int answer, double due) {
        if (due != 0 && !inRange(due)) {
            checks.due(what, answer, RoundedNumbers.RANGE);
            return;
        }
        checks.due(what, answer, RoundedNumbers.DONE);
        double got = Math.scalb((double) x.odd(3), (int) x.exponent(3));
        checks.due(what + " as bits", Double.doubleToLongBits(got), Double.doubleToLongBits(due + 0.0));
    }
}
