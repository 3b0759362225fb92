/** Promise 15: neighbours and equal numbers over the whole range, and "-2 for register numbers out of 0 .. 7". */
public final class Promise15CompareTest extends Trial {
    public static void main(String[] args) {
        new Promise15CompareTest().run();
    }

    @Override
    void sentences() {
        ascending();
        neighboursOfEveryPower();
        theSameInAnyForm();
        wrongRegisters();
    }

    private void ascending() {
        sentence("-1, 0, 1");
        long[][] numbers = {{-ALL, 47}, {-1, 99}, {-3, 0}, {-1, 0}, {-((1L << 52) + 1), -152}, {-1, -100}, {0, 0}, {1, -100},
            {(1L << 52) + 1, -152}, {1, 0}, {3, 0}, {1, 99}, {ALL, 47}};
        for (int i = 0; i < numbers.length; i++) {
            for (int j = 0; j < numbers.length; j++) {
                given(numbers[i][0], numbers[i][1], numbers[j][0], numbers[j][1]);
                answers("number " + i + " and number " + j, x -> x.compare(0, 1), Integer.compare(i, j));
            }
        }
    }

    private void neighboursOfEveryPower() {
        sentence("a is less than b, though by the least that can be");
        for (int k = -99; k <= 99; k++) {
            for (int s : SIGNS) {
                given(s * ALL, k - 53, s, k, s * ((1L << 52) + 1), k - 52);
                answers("just below 2^" + k, x -> x.compare(0, 1), -s);
                answers("2^" + k + " itself", x -> x.compare(1, 1), 0);
                answers("just above 2^" + k, x -> x.compare(2, 1), s);
                answers("above and below", x -> x.compare(0, 2), -s);
                answers("2^" + k + " and the one above", x -> x.compare(1, 2), -s);
            }
        }
    }

    private void theSameInAnyForm() {
        sentence("the same as b, whatever it was set from");
        for (int i = 0; i <= 50; i++) {
            given(5L << i, -i, 5, 0, 0, i, 0, -i);
            answers("5 with " + i + " zeros", x -> x.compare(0, 1), 0);
            answers("0 with e " + i, x -> x.compare(2, 3), 0);
        }
    }

    private void wrongRegisters() {
        sentence("-2 for register numbers out of 0 .. 7");
        given(1, 0, 2, 0, 3, 0, 4, 0, 5, 0, 6, 0, 7, 0, 8, 0);
        for (int r : WRONG) {
            for (int right : new int[] {0, 7}) {
                answers("a " + r, x -> x.compare(r, right), -2);
                answers("b " + r, x -> x.compare(right, r), -2);
            }
            answers("both " + r, x -> x.compare(r, r), -2);
        }
        answers("0 and 7", x -> x.compare(0, 7), -1);
        answers("7 and 0", x -> x.compare(7, 0), 1);
        answers("0 and 0", x -> x.compare(0, 0), 0);
        answers("7 and 7", x -> x.compare(7, 7), 0);
    }
}
