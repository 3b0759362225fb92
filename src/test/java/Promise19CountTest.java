/** Promise 19: what each count counts and what not; "Else -100". */
public final class Promise19CountTest extends Trial {
    public static void main(String[] args) {
        new Promise19CountTest().run();
    }

    @Override
    void sentences() {
        otherwise();
        lost();
        narrowRegisters();
        operationsThatWereRounded();
        callsThatWereRange();
    }

    private void otherwise() {
        sentence("Else -100");
        given();
        for (int what : new int[] {-1, 4, -2, 5, 7, 8, -100, 256, 1 << 16, Integer.MIN_VALUE, Integer.MAX_VALUE}) {
            answers("count(" + what + ")", x -> x.count(what), -100);
        }
        answers("count(3), the last", x -> x.count(3), 1);
        RoundedNumbers x = new RoundedNumbers();
        due("count(0), the first", x.count(0), 0);
    }

    /** LOST through all its values, kept by what is no OPERATION, is REFUSED or is RANGE. */
    private void lost() {
        sentence("0: LOST");
        RoundedNumbers x = new RoundedNumbers();
        x.set(0, 1, 0);
        x.set(1, 3, 0);
        due("after set", x.count(0), 0);
        x.divide(2, 0, 1, false);
        due("less", x.count(0), -1);
        kept(x, -1);
        x.divide(2, 0, 1, true);
        due("greater", x.count(0), 1);
        kept(x, 1);
        x.step(2, 2, true, false);
        due("the same", x.count(0), 0);
        kept(x, 0);
    }

    private void kept(RoundedNumbers x, int lost) {
        x.set(3, 5, 0);
        due("LOST stays with set", x.count(0), lost);
        x.set(3, 1, 100);
        due("LOST stays with RANGE of set", x.count(0), lost);
        x.scale(3, 0, 100);
        due("LOST stays with RANGE of an OPERATION", x.count(0), lost);
        x.divide(3, 0, 7, false);
        due("LOST stays with REFUSED", x.count(0), lost);
        x.cubeRoot(0, 1);
        x.compare(0, 1);
        x.odd(0);
        x.exponent(0);
        x.whole(0, true);
        x.count(1);
        due("LOST stays with what puts nothing", x.count(0), lost);
    }

    private void narrowRegisters() {
        sentence("1: the number of registers that are NARROW");
        RoundedNumbers x = new RoundedNumbers();
        due("all 0", x.count(1), 8);
        for (int r = 0; r < 8; r++) {
            x.set(r, ALL_NARROW, r);
            due("24 bits in register " + r, x.count(1), 8 - r);
            x.set(r, (1L << 24) + 1, r);
            due("25 bits in register " + r, x.count(1), 7 - r);
        }
        for (int r = 7; r >= 0; r--) {
            x.copy(r, r, true);
            due("rounded to 24 bits in register " + r, x.count(1), 8 - r);
        }
        x.set(0, 0, 0);
        due("0 again", x.count(1), 8);
    }

    private void operationsThatWereRounded() {
        sentence("2: OPERATIONS since the beginning that set LOST to -1 or 1");
        RoundedNumbers x = new RoundedNumbers();
        x.set(0, 1, 0);
        x.set(1, 3, 0);
        due("none", x.count(2), 0);
        x.divide(2, 0, 1, false);
        due("one to -1", x.count(2), 1);
        x.divide(2, 0, 1, true);
        due("one to 1", x.count(2), 2);
        x.divide(2, 0, 1, true);
        due("once more to 1", x.count(2), 3);
        x.add(2, 0, 1, false);
        due("not one to 0", x.count(2), 3);
        x.divide(2, 0, 1, false);
        x.step(2, 2, true, false);
        due("not a step", x.count(2), 4);
        x.set(4, 1, 99);
        x.set(5, ALL, 47);
        due("not a set", x.count(2), 4);
        due("a copy that is RANGE", x.copy(6, 5, true), RANGE);
        due("not RANGE, though it was rounded", x.count(2), 4);
        due("a divide that is REFUSED", x.divide(6, 0, 7, false), REFUSED);
        due("not REFUSED", x.count(2), 4);
    }

    private void callsThatWereRange() {
        sentence("3: calls that were RANGE");
        RoundedNumbers x = new RoundedNumbers();
        x.set(0, 1, 99);
        x.set(1, 1, -100);
        x.set(2, (1L << 52) + 1, -152);
        x.set(3, ALL, 47);
        x.set(4, -1, 99);
        due("none", x.count(3), 0);
        int[] answers = {x.set(7, 1, 100), x.add(7, 0, 0, false), x.subtract(7, 0, 4, true), x.multiply(7, 1, 1, true),
            x.divide(7, 0, 1, false), x.fuse(7, 0, 0, 1), x.fuseNarrow(7, 0, 0, 1), x.remainder(7, 2, 1),
            x.copy(7, 3, true), x.scale(7, 0, 1), x.step(7, 3, true, false), x.step(7, 3, true, true)};
        for (int answer : answers) {
            due("an answer", answer, RANGE);
        }
        due("each of them", x.count(3), answers.length);
        x.set(8, 1, 100);
        x.set(7, 1, 251);
        x.divide(7, 0, 6, false);
        x.scale(7, 0, 501);
        due("not REFUSED", x.count(3), answers.length);
        due("compare with a wrong register", x.compare(0, 8), -2);
        due("not the -2 of compare", x.count(3), answers.length);
        x.add(7, 0, 1, false);
        x.whole(0, false);
        due("not DONE", x.count(3), answers.length);
    }
}
