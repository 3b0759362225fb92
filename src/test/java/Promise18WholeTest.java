/** Promise 18: truncated towards 0; "the nearest end if it is beyond"; "NONE may be an answer, too". */
public final class Promise18WholeTest extends Trial {
    private static final long INT_END = 1L << 31;

    public static void main(String[] args) {
        new Promise18WholeTest().run();
    }

    @Override
    void sentences() {
        truncated();
        truncatedToZero();
        truncatedAtEveryWholeNumberOfBits();
        endsOf31Bits();
        endsOf63Bits();
        farBeyond();
        noneIsAnAnswer();
        wrongRegisters();
    }

    private void whole(String what, long m, int e, long due, long wideDue) {
        given(m, e);
        answers(what, x -> x.whole(0, false), due);
        answers(what + ", wide", x -> x.whole(0, true), wideDue);
    }

    private void same(String what, long m, int e, long due) {
        whole(what, m, e, due, due);
    }

    private void truncated() {
        sentence("truncated towards 0 to a whole number");
        same("0", 0, 0, 0);
        for (int s : SIGNS) {
            same("the nearest to 0", s, -100, 0);
            same("2^-64", s, -64, 0);
            same("2^-1", s, -1, 0);
            same("just below 1", s * ALL, -53, 0);
            same("1", s, 0, s);
            same("just above 1", s * ((1L << 52) + 1), -52, s);
            same("just below 2", s * ALL, -52, s);
            same("2", s, 1, 2 * s);
            same("2.5", s * 5, -1, 2 * s);
            same("just below 3", s * ((3L << 51) - 1), -51, 2 * s);
            same("3", s * 3, 0, 3 * s);
        }
    }

    private void truncatedToZero() {
        sentence("truncated towards 0, below 1");
        for (int s : SIGNS) {
            for (int n = 1; n <= 100; n++) {
                same("2^-" + n, s, -n, 0);
                same("just below 2^-" + (n - 1), s * ALL, -52 - n, 0);
            }
        }
    }

    private void truncatedAtEveryWholeNumberOfBits() {
        sentence("truncated towards 0, just below 2^n and at it");
        for (int s : SIGNS) {
            for (int n = 1; n < 31; n++) {
                same("just below 2^" + n, s * ALL, n - 53, s * ((1L << n) - 1));
                same("2^" + n, s, n, s * (1L << n));
                same("just above 2^" + n, s * ((1L << 52) + 1), n - 52, s * (1L << n));
            }
            for (int n = 32; n < 63; n++) {
                long end = s > 0 ? INT_END - 1 : -INT_END;
                long below = n <= 53 ? (1L << n) - 1 : ALL << (n - 53);
                whole("just below 2^" + n, s * ALL, n - 53, end, s * below);
                whole("2^" + n, s, n, end, s * (1L << n));
            }
        }
    }

    private void endsOf31Bits() {
        sentence("within -2^31 .. 2^31 - 1, the nearest end if it is beyond");
        same("2^31 - 2", INT_END - 2, 0, INT_END - 2);
        same("2^31 - 1", INT_END - 1, 0, INT_END - 1);
        same("just above 2^31 - 1", ((INT_END - 1) << 22) + 1, -22, INT_END - 1);
        same("just below 2^31", ALL, -22, INT_END - 1);
        whole("2^31", 1, 31, INT_END - 1, INT_END);
        whole("just above 2^31", (1L << 52) + 1, -21, INT_END - 1, INT_END);
        whole("2^31 + 1", INT_END + 1, 0, INT_END - 1, INT_END + 1);
        same("-2^31 + 1", 1 - INT_END, 0, 1 - INT_END);
        same("just above -2^31", -ALL, -22, 1 - INT_END);
        same("-2^31", -1, 31, -INT_END);
        same("just below -2^31", -(1L << 52) - 1, -21, -INT_END);
        same("just above -2^31 - 1", -((INT_END + 1) << 21) + 1, -21, -INT_END);
        whole("-2^31 - 1", -INT_END - 1, 0, -INT_END, -INT_END - 1);
        whole("-2^32", -1, 32, -INT_END, -2 * INT_END);
    }

    private void endsOf63Bits() {
        sentence("with wide true within -2^63 .. 2^63 - 1");
        whole("just below 2^63", ALL, 10, INT_END - 1, Long.MAX_VALUE - 1023);
        whole("2^63", 1, 63, INT_END - 1, Long.MAX_VALUE);
        whole("just above 2^63", (1L << 52) + 1, 11, INT_END - 1, Long.MAX_VALUE);
        whole("2^64", 1, 64, INT_END - 1, Long.MAX_VALUE);
        whole("just above -2^63", -ALL, 10, -INT_END, Long.MIN_VALUE + 1024);
        whole("-2^63", -1, 63, -INT_END, Long.MIN_VALUE);
        whole("just below -2^63", -(1L << 52) - 1, 11, -INT_END, Long.MIN_VALUE);
        whole("-2^64", -1, 64, -INT_END, Long.MIN_VALUE);
    }

    private void farBeyond() {
        sentence("the nearest end if it is beyond");
        for (int n = 63; n < 100; n++) {
            whole("2^" + n, 1, n, INT_END - 1, Long.MAX_VALUE);
            whole("-2^" + n, -1, n, -INT_END, Long.MIN_VALUE);
            whole("just below 2^" + (n + 1), ALL, n - 52, INT_END - 1, Long.MAX_VALUE);
            whole("just above -2^" + (n + 1), -ALL, n - 52, -INT_END, Long.MIN_VALUE);
        }
    }

    private void noneIsAnAnswer() {
        sentence("NONE may be an answer, too");
        whole("-2^62", -1, 62, -INT_END, NONE);
        whole("just above -2^62", -ALL, 9, -INT_END, NONE + 512);
        whole("just below -2^62", -(1L << 52) - 1, 10, -INT_END, NONE - 1024);
        whole("2^62", 1, 62, INT_END - 1, -NONE);
    }

    private void wrongRegisters() {
        sentence("Register numbers out of 0 .. 7: NONE");
        given(1, 0, 2, 0, 3, 0, 4, 0, 5, 0, 6, 0, 7, 0, 8, 0);
        for (boolean wide : BOTH) {
            for (int r = 0; r < 8; r++) {
                int right = r;
                answers("register " + r, x -> x.whole(right, wide), 1 + r);
            }
            for (int r : WRONG) {
                answers("register " + r, x -> x.whole(r, wide), NONE);
            }
        }
    }
}
