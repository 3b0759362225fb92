/** Promise 1: "All registers 0", as every call sees them, and what Terms says of the beginning. */
public final class Promise01NewObjectTest extends Trial {
    public static void main(String[] args) {
        new Promise01NewObjectTest().run();
    }

    @Override
    void sentences() {
        allRegistersZero();
        countsAtFirst();
        anotherObject();
        zeroAsAnOperationTakesIt();
    }

    private void allRegistersZero() {
        sentence("All registers 0");
        RoundedNumbers x = new RoundedNumbers();
        for (int r = 0; r < 8; r++) {
            due("odd(" + r + ")", x.odd(r), 0);
            due("exponent(" + r + ")", x.exponent(r), 0);
            due("whole(" + r + ")", x.whole(r, false), 0);
            due("wide whole(" + r + ")", x.whole(r, true), 0);
            for (int other = 0; other < 8; other++) {
                due("compare(" + r + ", " + other + ")", x.compare(r, other), 0);
                due("cubeRoot(" + r + ", " + other + ")", x.cubeRoot(r, other), 1);
            }
        }
    }

    private void countsAtFirst() {
        sentence("LOST is 0 at first");
        RoundedNumbers x = new RoundedNumbers();
        due("LOST", x.count(0), 0);
        due("NARROW registers", x.count(1), 8);
        due("rounded OPERATIONS", x.count(2), 0);
        due("RANGE", x.count(3), 0);
    }

    private void anotherObject() {
        sentence("All registers 0, beside an object that was used");
        RoundedNumbers used = new RoundedNumbers();
        for (int r = 0; r < 8; r++) {
            used.set(r, ALL, -r);
        }
        used.add(0, 0, 1, false);
        used.set(0, 1, 100);
        RoundedNumbers x = new RoundedNumbers();
        for (int r = 0; r < 8; r++) {
            due("odd(" + r + ")", x.odd(r), 0);
            due("exponent(" + r + ")", x.exponent(r), 0);
        }
        due("LOST", x.count(0), 0);
        due("NARROW registers", x.count(1), 8);
        due("rounded OPERATIONS", x.count(2), 0);
        due("RANGE", x.count(3), 0);
        x.set(5, 1, 0);
        due("the other one stays", used.odd(5), ALL);
    }

    private void zeroAsAnOperationTakesIt() {
        sentence("All registers 0, as they are taken");
        for (int r = 0; r < 8; r++) {
            RoundedNumbers x = new RoundedNumbers();
            due("divide by it", x.divide(0, r, r, false), REFUSED);
            due("remainder by it", x.remainder(0, r, r), REFUSED);
            due("root of it", x.root(r, r, true), RoundedNumbers.DONE);
            due("its step", x.step(r, r, false, true), RoundedNumbers.DONE);
            due("odd", x.odd(r), -1);
            due("exponent", x.exponent(r), -100);
        }
    }
}
