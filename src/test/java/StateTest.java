/** Promises 1 to 3: a new object, init, clear. */
public final class StateTest {
    private static final Check CHECK = new Check();

    public static void main(String[] args) {
        for (int log = 1; log <= 10; log++) {
            sizeIs(log, log);
        }
        int[] others = {0, -1, 11, 12, 31, 32, 33, 34, 1000, Integer.MIN_VALUE, Integer.MAX_VALUE};
        for (int log : others) {
            sizeIs(log, 1);
            newObjectIsEmptyAndNotReady(log);
        }
        newObjectIsEmptyAndNotReady(1);
        newObjectIsEmptyAndNotReady(10);
        initMakesReadyOnce();
        initIsRefusedWhenReady();
        initKeepsDigits();
        clearOfFullRows();
        clearOfNothing();
        clearBeforeInitLeavesNotReady();
        clearAfterInitLeavesReady();
        nothingClearedComesBack();
        objectsAreApart();
        CHECK.ended();
    }

    /** Promise 1: "log of 1 .. 10 (of another number 1)". */
    private static void sizeIs(int log, int usedLog) {
        String name = "log " + log + ": ";
        int size = 1 << usedLog;
        TransformProduct x = new TransformProduct(log);
        x.init();
        x.multiply();
        CHECK.same(name + "butterflies()", x.butterflies(), 9 * (size / 2) * usedLog);
        for (int which = 0; which < 2; which++) {
            CHECK.no(name + "one too many", x.repeat(which, 1, size + 1));
            CHECK.yes(name + "all but one", x.repeat(which, 1, size - 1));
            CHECK.yes(name + "the last", which == 0 ? x.feedA(1) : x.feedB(1));
            CHECK.no(name + "one more", which == 0 ? x.feedA(1) : x.feedB(1));
        }
        CHECK.same(name + "spectrum's first", x.spectrum(0, 0, 0), size);
        CHECK.same(name + "spectrum's last", x.spectrum(1, 2, size - 1), 0);
        CHECK.same(name + "beyond the spectrum", x.spectrum(0, 0, size), -1);
    }

    /** Promise 1: "Not ready; no digits, no product." */
    private static void newObjectIsEmptyAndNotReady(int log) {
        TransformProduct x = new TransformProduct(log);
        CHECK.product("new", x);
        CHECK.same("new butterflies()", x.butterflies(), 0);
        CHECK.same("new compare()", x.compare(), 0);
        CHECK.same("new rest(7)", x.rest(7), 0);
        CHECK.no("new multiply()", x.multiply());
        CHECK.no("new square()", x.square());
        CHECK.same("new spectrum(0, 0, 0)", x.spectrum(0, 0, 0), -1);
        for (int which = 0; which < 2; which++) {
            CHECK.yes("new take()", x.take(which));
            CHECK.product("new row " + which, x);
        }
        CHECK.yes("new init()", x.init());
        CHECK.same("new spectrum(0, 0, 0) made ready", x.spectrum(0, 0, 0), 0);
        CHECK.same("new spectrum(1, 2, 1) made ready", x.spectrum(1, 2, 1), 0);
    }

    /** Promise 2: "Makes ready. Answers true; false when it is already." */
    private static void initMakesReadyOnce() {
        TransformProduct x = new TransformProduct(2);
        CHECK.no("multiply() before", x.multiply());
        CHECK.yes("first init()", x.init());
        CHECK.no("second init()", x.init());
        CHECK.no("third init()", x.init());
        CHECK.yes("multiply() when ready", x.multiply());
        CHECK.yes("square() when ready", x.square());
        CHECK.same("spectrum(1, 2, 3) when ready", x.spectrum(1, 2, 3), 0);
        CHECK.no("init() after products", x.init());
    }

    /** Promise 2, refused: it changes nothing. */
    private static void initIsRefusedWhenReady() {
        Twins empty = new Twins(CHECK, "ready", () -> Made.ready(2, Made.row(), Made.row()));
        empty.refuses("init()", x -> x.init());
        Twins used = new Twins(CHECK, "used", () -> Made.multiplied(2, Made.row(9, 0), Made.row(8, 0)));
        used.refuses("init()", x -> x.init());
        Twins full = new Twins(CHECK, "full", () -> Made.full(10));
        full.refuses("init()", x -> x.init());
    }

    private static void initKeepsDigits() {
        TransformProduct x = Made.unready(2, Made.row(3), Made.row(4));
        x.take(1);
        CHECK.yes("init() after digits", x.init());
        CHECK.product("product over init()", x, 4);
        CHECK.same("compare() over init()", x.compare(), -1);
        CHECK.yes("multiply() of the digits fed before", x.multiply());
        CHECK.product("3 times 4", x, 12);
    }

    /** Promise 3: "A, B and the product have no digits; butterflies are 0." */
    private static void clearOfFullRows() {
        for (int log = 1; log <= 10; log += 3) {
            TransformProduct x = Made.full(log);
            x.clear();
            CHECK.product("cleared product", x);
            CHECK.same("cleared butterflies()", x.butterflies(), 0);
            CHECK.same("cleared rest(5)", x.rest(5), 0);
            CHECK.same("cleared compare()", x.compare(), 0);
            for (int which = 0; which < 2; which++) {
                CHECK.same("cleared spectrum()", x.spectrum(which, 0, 0), 0);
                x.take(which);
                CHECK.product("cleared row " + which, x);
                CHECK.yes("room of N after clear()", x.repeat(which, 1, 1 << log));
            }
        }
    }

    /** Promise 3, where there is nothing to clear. */
    private static void clearOfNothing() {
        Twins fresh = new Twins(CHECK, "new", () -> new TransformProduct(3));
        fresh.grants("clear()", StateTest::cleared);
        Twins ready = new Twins(CHECK, "ready", () -> Made.ready(3, Made.row(), Made.row()));
        ready.grants("clear()", StateTest::cleared);
        Twins again = new Twins(CHECK, "cleared", () -> {
            TransformProduct x = Made.full(3);
            x.clear();
            return x;
        });
        again.grants("clear()", StateTest::cleared);
    }

    private static boolean cleared(TransformProduct x) {
        x.clear();
        return true;
    }

    private static void clearBeforeInitLeavesNotReady() {
        TransformProduct x = Made.unready(3, Made.row(2), Made.row());
        x.take(0);
        x.clear();
        CHECK.product("cleared before init()", x);
        CHECK.no("multiply() before init()", x.multiply());
        CHECK.no("square() before init()", x.square());
        CHECK.yes("init() after an early clear()", x.init());
    }

    private static void clearAfterInitLeavesReady() {
        TransformProduct x = Made.full(3);
        x.clear();
        CHECK.no("init() after clear()", x.init());
        CHECK.yes("multiply() after clear()", x.multiply());
        CHECK.yes("square() after clear()", x.square());
    }

    private static void nothingClearedComesBack() {
        TransformProduct x = Made.full(3);
        x.clear();
        x.feedA(2);
        x.feedB(5);
        CHECK.same("spectrum(0, 0, 0) of 2", x.spectrum(0, 0, 0), 2);
        CHECK.same("spectrum(1, 1, 1) of 5", x.spectrum(1, 1, 1), 5);
        CHECK.yes("multiply() after clear()", x.multiply());
        CHECK.product("2 times 5", x, 10);
        CHECK.yes("square() after clear()", x.square());
        CHECK.product("2 squared", x, 4);
        CHECK.same("compare() of 2 and 5", x.compare(), -1);
        x.take(1);
        CHECK.product("5", x, 5);
    }

    private static void objectsAreApart() {
        TransformProduct x = new TransformProduct(3);
        TransformProduct y = new TransformProduct(3);
        x.init();
        CHECK.no("the other is not ready", y.square());
        y.init();
        x.feedA(11);
        y.feedA(12);
        x.square();
        y.square();
        CHECK.product("x", x, 121);
        CHECK.product("y", y, 144);
    }
}
