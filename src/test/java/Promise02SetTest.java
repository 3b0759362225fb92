/** Promise 2: the ends of m and of e, "It is no NUMBER: RANGE", "LOST stays". */
public final class Promise02SetTest extends Trial {
    private static final long M = 9007199254740991L;

    public static void main(String[] args) {
        new Promise02SetTest().run();
    }

    @Override
    void sentences() {
        endsOfM();
        endsOfE();
        refusedBeforeRange();
        noNumber();
        everyForm();
    }

    private void endsOfM() {
        sentence("m below -9007199254740991 or above 9007199254740991: REFUSED");
        given();
        for (int e : new int[] {-152, -60, 0, 47}) {
            doneBySet("m one less than the greatest", x -> x.set(3, M - 1, e), 3, M - 1, e);
            doneBySet("the greatest m", x -> x.set(3, M, e), 3, M, e);
            refused("m one more than that", x -> x.set(3, M + 1, e));
            refused("m two more", x -> x.set(3, M + 2, e));
            refused("the greatest long", x -> x.set(3, Long.MAX_VALUE, e));
            doneBySet("m one more than the least", x -> x.set(3, 1 - M, e), 3, 1 - M, e);
            doneBySet("the least m", x -> x.set(3, -M, e), 3, -M, e);
            refused("m one less than that", x -> x.set(3, -M - 1, e));
            refused("m two less", x -> x.set(3, -M - 2, e));
            refused("the least long", x -> x.set(3, Long.MIN_VALUE, e));
        }
        refused("2^60 + 1, whose lower bits alone are 1", x -> x.set(3, (1L << 60) + 1, 0));
    }

    private void endsOfE() {
        sentence("e out of -250 .. 250: REFUSED");
        given();
        for (int e : new int[] {-250, -249, -1, 0, 1, 249, 250}) {
            doneBySet("0 with e " + e, x -> x.set(3, 0, e), 3, 0, 0);
        }
        for (int e : new int[] {-250, -249, 249, 250}) {
            range("1 with e " + e, x -> x.set(3, 1, e));
            range("-1 with e " + e, x -> x.set(3, -1, e));
            range("the greatest m with e " + e, x -> x.set(3, M, e));
        }
        for (int e : new int[] {-251, -252, 251, 252, Integer.MIN_VALUE, Integer.MAX_VALUE}) {
            refused("0 with e " + e, x -> x.set(3, 0, e));
            refused("1 with e " + e, x -> x.set(3, 1, e));
            refused("the least m with e " + e, x -> x.set(3, -M, e));
        }
    }

    private void refusedBeforeRange() {
        sentence("REFUSED, and RANGE only if it is not");
        given();
        for (int s : SIGNS) {
            refused("m too great and the number too great", x -> x.set(3, s * (M + 1), 48));
            refused("m too great and the number too small", x -> x.set(3, s * (M + 1), -250));
            refused("e too great", x -> x.set(3, s, 251));
            refused("e too small", x -> x.set(3, s, -251));
        }
    }

    private void noNumber() {
        sentence("It is no NUMBER: RANGE. LOST stays");
        given();
        for (int s : SIGNS) {
            range("2^100", x -> x.set(3, s, 100));
            doneBySet("2^99", x -> x.set(3, s, 99), 3, s, 99);
            range("2^100 with m 2", x -> x.set(3, 2 * s, 99));
            doneBySet("just below 2^100", x -> x.set(3, s * M, 47), 3, s * M, 47);
            range("twice that", x -> x.set(3, s * M, 48));
            doneBySet("2^-100", x -> x.set(3, s, -100), 3, s, -100);
            range("2^-101", x -> x.set(3, s, -101));
            doneBySet("3 * 2^-101", x -> x.set(3, 3 * s, -101), 3, 3 * s, -101);
            range("3 * 2^-102", x -> x.set(3, 3 * s, -102));
            range("just below 2^-100", x -> x.set(3, s * M, -153));
            doneBySet("twice that again", x -> x.set(3, s * M, -152), 3, s * M, -152);
        }
    }

    /** 2^-100 and 2^99 in every way that m allows, and half and twice as much. */
    private void everyForm() {
        sentence("Register d becomes m * 2^e");
        given();
        for (int i = 0; i <= 52; i++) {
            long m = 1L << i;
            int place = i;
            doneBySet("2^-100 as 2^" + i, x -> x.set(3, m, -100 - place), 3, 1, -100);
            range("half of it", x -> x.set(3, m, -101 - place));
            doneBySet("2^99 as 2^" + i, x -> x.set(3, -m, 99 - place), 3, -1, 99);
            range("twice as much", x -> x.set(3, -m, 100 - place));
        }
    }
}
