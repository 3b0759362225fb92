import java.util.Random;

/**
 * Runs of calls on a new object and on the model, with arguments that crowd at the document's edges.
 * After every call that may change something all registers and counts are compared.
 */
public final class ModelTest {
    private static final int RUNS = 60000;
    private static final int CALLS = 20;

    private final Checks checks = new Checks();
    private final Random random = new Random(20261115L);
    private RoundedNumbers x;
    private Model model;
    private String run;

    public static void main(String[] args) {
        ModelTest test = new ModelTest();
        for (int i = 0; i < RUNS; i++) {
            test.randomRun(i);
            test.cubeRun(i);
            test.fuseRun(i);
        }
        test.checks.end("ModelTest");
    }

    private void begin(String name) {
        run = name;
        x = new RoundedNumbers();
        model = new Model();
    }

    /** Four numbers set and then any calls: an object is not used for more than 512. */
    private void randomRun(int number) {
        begin("random run " + number);
        int middle = random.nextInt(5) == 0 ? edge() : 0;
        for (int r = 0; r < 4; r++) {
            setAny(r, random.nextInt(4) == 0 ? edge() : middle);
        }
        for (int i = 0; i < CALLS; i++) {
            anyCall();
            sameState();
        }
    }

    /** A number and what is near its cube root. */
    private void cubeRun(int number) {
        begin("cube run " + number);
        if (random.nextInt(2) == 0) {
            long n = 1 + random.nextInt(1 << random.nextInt(18));
            int e = random.nextInt(30) - 15;
            int sign = random.nextBoolean() ? 1 : -1;
            set(0, sign * n * n * n, 3 * e);
            set(1, sign * n, e);
        } else {
            setAny(1, random.nextInt(40) - 20);
            call(4, 2, 1, 1, 0, false, false, 0);
            call(4, 0, 2, 1, 0, false, false, 0);
        }
        for (int i = 0; i < 6; i++) {
            call(13, 0, 0, 1, 0, false, false, 0);
            call(13, 0, 1, 0, 0, false, false, 0);
            int moved = random.nextInt(3) == 0 ? 0 : 1;
            call(12, moved, moved, 0, 0, random.nextInt(8) == 0, random.nextBoolean(), 0);
        }
        sameState();
    }

    /** A product and what takes away nearly all of it, or lies near a tie of it. */
    private void fuseRun(int number) {
        begin("fuse run " + number);
        boolean narrow = random.nextBoolean();
        setAny(0, random.nextInt(30) - 15);
        setAny(1, random.nextInt(30) - 15);
        if (narrow) {
            call(10, 0, 0, 0, 0, true, false, 0);
            call(10, 1, 1, 0, 0, true, false, 0);
        }
        call(4, 2, 0, 1, 0, narrow, false, 0);
        call(3, 3, 7, 2, 0, narrow, false, 0);
        for (int i = 0; i < 3; i++) {
            call(6, 4, 0, 1, 3, narrow, false, 0);
            call(6, 5, 0, 1, 2, narrow, false, 0);
            call(12, 3, 3, 0, 0, narrow, random.nextBoolean(), 0);
            call(11, 2, 2, 0, 0, false, false, random.nextInt(120) - 60);
        }
        sameState();
    }

    private int edge() {
        return random.nextBoolean() ? 98 + random.nextInt(4) : -102 + random.nextInt(4);
    }

    private void setAny(int d, int top) {
        long m = mantissa();
        int length = 64 - Long.numberOfLeadingZeros(Math.abs(m));
        set(d, m, top - length + 1 + (random.nextInt(3) == 0 ? random.nextInt(7) - 3 : 0));
    }

    private void set(int d, long m, int e) {
        checks.due(run + " set(" + d + ", " + m + ", " + e + ")", x.set(d, m, e), model.set(d, m, e));
        sameRegister(d);
    }

    private long mantissa() {
        long sign = random.nextBoolean() ? 1 : -1;
        int bits = 1 + random.nextInt(53);
        switch (random.nextInt(8)) {
            case 0:
                return sign * random.nextInt(20);
            case 1:
                return sign * (1L << (bits - 1));
            case 2:
                return sign * ((1L << bits) - 1);
            case 3:
                return sign * Math.min((1L << bits) + random.nextInt(5) - 2, (1L << 53) - 1);
            case 4:
                return sign * (random.nextLong() >>> (64 - 24));
            case 5:
                return sign * (random.nextLong() >>> (64 - 26));
            case 6:
                return sign * ((1L << 53) - 1 - random.nextInt(4));
            default:
                return sign * (random.nextLong() >>> (64 - 53));
        }
    }

    private int register() {
        int kind = random.nextInt(60);
        if (kind == 0) {
            return random.nextBoolean() ? -1 : 8;
        }
        if (kind == 1) {
            return random.nextInt();
        }
        return random.nextInt(kind < 40 ? 4 : 8);
    }

    private int power() {
        switch (random.nextInt(8)) {
            case 0:
                return random.nextBoolean() ? 501 : -501;
            case 1:
                return random.nextBoolean() ? 500 : -500;
            case 2:
                return random.nextInt();
            case 3:
                return random.nextInt(401) - 200;
            default:
                return random.nextInt(121) - 60;
        }
    }

    private void anyCall() {
        if (random.nextInt(10) == 0) {
            setAny(random.nextInt(8), random.nextInt(5) == 0 ? edge() : random.nextInt(9) - 4);
            return;
        }
        boolean narrow = random.nextInt(3) == 0;
        call(2 + random.nextInt(17), register(), register(), register(), register(), narrow, random.nextBoolean(), power());
    }

    /** One call of both, by its number in the order of the document's face. */
    private void call(int which, int d, int a, int b, int c, boolean narrow, boolean other, int n) {
        String text = run + ", call " + which + " (" + d + ", " + a + ", " + b + ", " + c + ", " + narrow + ", " + other + ", " + n + ")";
        checks.due(text, ofProgram(which, d, a, b, c, narrow, other, n), ofModel(which, d, a, b, c, narrow, other, n));
    }

    private long ofProgram(int which, int d, int a, int b, int c, boolean narrow, boolean other, int n) {
        switch (which) {
            case 2: return x.add(d, a, b, narrow);
            case 3: return x.subtract(d, a, b, narrow);
            case 4: return x.multiply(d, a, b, narrow);
            case 5: return x.divide(d, a, b, narrow);
            case 6: return narrow ? x.fuseNarrow(d, a, b, c) : x.fuse(d, a, b, c);
            case 8: return x.root(d, a, narrow);
            case 9: return x.remainder(d, a, b);
            case 10: return x.copy(d, a, narrow);
            case 11: return x.scale(d, a, n);
            case 12: return x.step(d, a, other, narrow);
            case 13: return x.cubeRoot(a, b);
            case 14: return x.compare(a, b);
            case 15: return x.odd(a);
            case 16: return x.exponent(a);
            case 17: return x.whole(a, other);
            default: return x.count(n % 10);
        }
    }

    private long ofModel(int which, int d, int a, int b, int c, boolean narrow, boolean other, int n) {
        switch (which) {
            case 2: return model.add(d, a, b, narrow);
            case 3: return model.subtract(d, a, b, narrow);
            case 4: return model.multiply(d, a, b, narrow);
            case 5: return model.divide(d, a, b, narrow);
            case 6: return model.fuse(d, a, b, c, narrow);
            case 8: return model.root(d, a, narrow);
            case 9: return model.remainder(d, a, b);
            case 10: return model.copy(d, a, narrow);
            case 11: return model.scale(d, a, n);
            case 12: return model.step(d, a, other, narrow);
            case 13: return model.cubeRoot(a, b);
            case 14: return model.compare(a, b);
            case 15: return model.odd(a);
            case 16: return model.exponent(a);
            case 17: return model.whole(a, other);
            default: return model.count(n % 10);
        }
    }

    private void sameRegister(int r) {
        checks.due(run + ", odd(" + r + ")", x.odd(r), model.odd(r));
        checks.due(run + ", exponent(" + r + ")", x.exponent(r), model.exponent(r));
    }

    private void sameState() {
        for (int r = 0; r < 8; r++) {
            sameRegister(r);
        }
        for (int what = 0; what < 4; what++) {
            checks.due(run + ", count(" + what + ")", x.count(what), model.count(what));
        }
    }
}
