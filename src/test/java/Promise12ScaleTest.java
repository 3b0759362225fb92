/** Promise 12: "n of -500 .. 500, else REFUSED; to 53 bits". */
public final class Promise12ScaleTest extends Trial {
    public static void main(String[] args) {
        new Promise12ScaleTest().run();
    }

    @Override
    void sentences() {
        endsOfN();
        for (int sign : SIGNS) {
            everyPower(sign);
            fromEndToEnd(sign);
            to53Bits(sign);
        }
    }

    private void endsOfN() {
        sentence("n of -500 .. 500, else REFUSED");
        given(0, 0, 1, 0, -ALL, -20);
        for (int n : new int[] {-500, -499, 499, 500}) {
            done("0 by " + n, x -> x.scale(7, 0, n), 7, 0, 0, 0);
            range("1 by " + n, x -> x.scale(7, 1, n));
            range("-ALL by " + n, x -> x.scale(7, 2, n));
        }
        for (int n : new int[] {-501, -502, 501, 502, Integer.MIN_VALUE, Integer.MIN_VALUE + 1, Integer.MAX_VALUE}) {
            refused("0 by " + n, x -> x.scale(7, 0, n));
            refused("1 by " + n, x -> x.scale(7, 1, n));
            refused("-ALL by " + n, x -> x.scale(7, 2, n));
            refused("1 into itself by " + n, x -> x.scale(1, 1, n));
        }
    }

    private void everyPower(int s) {
        sentence("a * 2^n, sign " + s);
        given(s, 0, s * 5, 0);
        for (int i = -500; i <= 500; i++) {
            int n = i;
            if (n >= -100 && n <= 99) {
                done("1 by " + n, x -> x.scale(7, 0, n), 7, s, n, 0);
            } else {
                range("1 by " + n, x -> x.scale(7, 0, n));
            }
            if (n >= -102 && n <= 97) {
                done("5 by " + n, x -> x.scale(7, 1, n), 7, s * 5, n, 0);
            } else {
                range("5 by " + n, x -> x.scale(7, 1, n));
            }
        }
    }

    private void fromEndToEnd(int s) {
        sentence("a * 2^n, from one end of the sizes to the other, sign " + s);
        given(s, -100, s, 99, s * ALL, 47, s * ALL, -152);
        done("2^-100 by 199", x -> x.scale(7, 0, 199), 7, s, 99, 0);
        range("2^-100 by 200", x -> x.scale(7, 0, 200));
        range("2^-100 by -1", x -> x.scale(7, 0, -1));
        done("2^-100 by 0", x -> x.scale(7, 0, 0), 7, s, -100, 0);
        done("2^99 by -199", x -> x.scale(7, 1, -199), 7, s, -100, 0);
        range("2^99 by -200", x -> x.scale(7, 1, -200));
        range("2^99 by 1", x -> x.scale(7, 1, 1));
        done("the greatest by 0", x -> x.scale(7, 2, 0), 7, s * ALL, 47, 0);
        range("the greatest by 1", x -> x.scale(7, 2, 1));
        done("the greatest by -199", x -> x.scale(7, 2, -199), 7, s * ALL, -152, 0);
        range("the greatest by -200", x -> x.scale(7, 2, -200));
        done("the longest small one by 199", x -> x.scale(7, 3, 199), 7, s * ALL, 47, 0);
        range("the longest small one by 200", x -> x.scale(7, 3, 200));
        range("the longest small one by -1", x -> x.scale(7, 3, -1));
    }

    private void to53Bits(int s) {
        sentence("to 53 bits, sign " + s);
        given(s * ALL, 0, s * ((1L << 24) + 1), 0);
        done("53 bits", x -> x.scale(7, 0, 3), 7, s * ALL, 3, 0);
        done("25 bits", x -> x.scale(7, 1, -3), 7, s * ((1L << 24) + 1), -3, 0);
    }
}
