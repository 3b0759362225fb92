/** The OPERATIONS of the document, each with and without narrow, for the sentences that bind them all. */
enum Operation {
    ADD(3, 2, false, (x, d, a, b, c) -> x.add(d, a, b, false)),
    ADD_NARROW(3, 2, true, (x, d, a, b, c) -> x.add(d, a, b, true)),
    SUBTRACT(4, 2, false, (x, d, a, b, c) -> x.subtract(d, a, b, false)),
    SUBTRACT_NARROW(4, 2, true, (x, d, a, b, c) -> x.subtract(d, a, b, true)),
    MULTIPLY(5, 2, false, (x, d, a, b, c) -> x.multiply(d, a, b, false)),
    MULTIPLY_NARROW(5, 2, true, (x, d, a, b, c) -> x.multiply(d, a, b, true)),
    DIVIDE(6, 2, false, (x, d, a, b, c) -> x.divide(d, a, b, false)),
    DIVIDE_NARROW(6, 2, true, (x, d, a, b, c) -> x.divide(d, a, b, true)),
    FUSE(7, 3, false, (x, d, a, b, c) -> x.fuse(d, a, b, c)),
    FUSE_NARROW(8, 3, true, (x, d, a, b, c) -> x.fuseNarrow(d, a, b, c)),
    ROOT(9, 1, false, (x, d, a, b, c) -> x.root(d, a, false)),
    ROOT_NARROW(9, 1, true, (x, d, a, b, c) -> x.root(d, a, true)),
    REMAINDER(10, 2, false, (x, d, a, b, c) -> x.remainder(d, a, b)),
    COPY(11, 1, false, (x, d, a, b, c) -> x.copy(d, a, false)),
    COPY_TO_NARROW(11, 1, false, (x, d, a, b, c) -> x.copy(d, a, true)),
    SCALE(12, 1, false, (x, d, a, b, c) -> x.scale(d, a, 3)),
    STEP_UP(13, 1, false, (x, d, a, b, c) -> x.step(d, a, true, false)),
    STEP_DOWN(13, 1, false, (x, d, a, b, c) -> x.step(d, a, false, false)),
    STEP_UP_TO_NARROW(13, 1, false, (x, d, a, b, c) -> x.step(d, a, true, true)),
    STEP_DOWN_TO_NARROW(13, 1, false, (x, d, a, b, c) -> x.step(d, a, false, true));

    interface Form {
        int call(RoundedNumbers x, int d, int a, int b, int c);
    }

    final int promise;

    /** How many of a, b and c it takes. */
    final int takes;

    /** Whether those that it takes must be NARROW. */
    final boolean takesNarrow;

    private final Form form;

    Operation(int promise, int takes, boolean takesNarrow, Form form) {
        this.promise = promise;
        this.takes = takes;
        this.takesNarrow = takesNarrow;
        this.form = form;
    }

    int call(RoundedNumbers x, int d, int a, int b, int c) {
        return form.call(x, d, a, b, c);
    }

    /** The call with the register number in one place, 0 for d, 1 for a, 2 for b, 3 for c; the others are as said. */
    int callWith(RoundedNumbers x, int place, int number, int d, int a, int b, int c) {
        int[] all = {d, a, b, c};
        all[place] = number;
        return call(x, all[0], all[1], all[2], all[3]);
    }

    String title() {
        return "promise " + promise + ", " + name();
    }
}
