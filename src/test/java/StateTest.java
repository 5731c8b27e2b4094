/** Promises 1 to 3: a new object, init, clear. */
public final class StateTest {
    private static final Check CHECK = new Check();

    public static void main(String[] args) {
        newObjectIsEmptyAndNotReady();
        logTellsTheSize();
        initMakesReadyOnce();
        initKeepsDigits();
        clearEmptiesAllButStaysReady();
        clearBeforeInit();
        objectsAreApart();
        CHECK.ended();
    }

    private static void newObjectIsEmptyAndNotReady() {
        TransformProduct x = new TransformProduct(4);
        CHECK.product("new", x);
        CHECK.same("new butterflies()", x.butterflies(), 0);
        CHECK.same("new compare()", x.compare(), 0);
        CHECK.same("new rest(7)", x.rest(7), 0);
        CHECK.no("new multiply()", x.multiply());
        CHECK.no("new square()", x.square());
        CHECK.same("new spectrum(0, 0, 0)", x.spectrum(0, 0, 0), -1);
        CHECK.same("butterflies() after refusals", x.butterflies(), 0);
    }

    private static void logTellsTheSize() {
        for (int log = 1; log <= 10; log++) {
            roomIs(log, 1 << log);
        }
        int[] others = {0, -1, 11, 12, 31, 32, 33, 1000, Integer.MIN_VALUE, Integer.MAX_VALUE};
        for (int log : others) {
            roomIs(log, 2);
        }
    }

    private static void roomIs(int log, int size) {
        String name = "log " + log + ": ";
        TransformProduct x = new TransformProduct(log);
        x.init();
        for (int which = 0; which < 2; which++) {
            CHECK.no(name + "one too many", x.repeat(which, 1, size + 1));
            CHECK.yes(name + "all but one", x.repeat(which, 1, size - 1));
            CHECK.yes(name + "the last", which == 0 ? x.feedA(1) : x.feedB(1));
            CHECK.no(name + "one more", which == 0 ? x.feedA(1) : x.feedB(1));
        }
        CHECK.same(name + "spectrum's first", x.spectrum(0, 0, 0), size);
        CHECK.same(name + "spectrum's last", x.spectrum(1, 2, size - 1), 0);
        CHECK.same(name + "beyond the spectrum", x.spectrum(0, 0, size), -1);
    }

    private static void initMakesReadyOnce() {
        TransformProduct x = new TransformProduct(2);
        CHECK.yes("first init()", x.init());
        CHECK.no("second init()", x.init());
        CHECK.no("third init()", x.init());
        CHECK.yes("multiply() when ready", x.multiply());
        CHECK.yes("square() when ready", x.square());
        CHECK.same("spectrum(1, 2, 3) when ready", x.spectrum(1, 2, 3), 0);
        x.feedA(9);
        x.square();
        CHECK.no("init() after a square", x.init());
        CHECK.product("after a refused init()", x, 81);
        CHECK.same("butterflies() after a refused init()", x.butterflies(), 24);
        CHECK.same("spectrum() after a refused init()", x.spectrum(0, 1, 2), 9);
    }

    private static void initKeepsDigits() {
        TransformProduct x = new TransformProduct(2);
        x.feedA(3);
        x.feedB(4);
        x.take(1);
        CHECK.yes("init() after digits", x.init());
        CHECK.product("product over init()", x, 4);
        CHECK.same("compare() over init()", x.compare(), -1);
        CHECK.yes("multiply() of the digits fed before", x.multiply());
        CHECK.product("3 times 4", x, 12);
    }

    private static void clearEmptiesAllButStaysReady() {
        TransformProduct x = new TransformProduct(3);
        x.init();
        x.repeat(0, 32767, 4);
        x.repeat(1, 32767, 4);
        x.multiply();
        x.clear();
        CHECK.product("cleared", x);
        CHECK.same("cleared butterflies()", x.butterflies(), 0);
        CHECK.same("cleared rest(5)", x.rest(5), 0);
        CHECK.same("cleared compare()", x.compare(), 0);
        CHECK.same("cleared spectrum(0, 0, 0)", x.spectrum(0, 0, 0), 0);
        CHECK.same("cleared spectrum(1, 0, 0)", x.spectrum(1, 0, 0), 0);
        CHECK.no("init() after clear()", x.init());
        CHECK.yes("room of A after clear()", x.repeat(0, 1, 8));
        CHECK.yes("room of B after clear()", x.repeat(1, 1, 8));
        x.clear();
        x.feedA(2);
        x.feedB(5);
        CHECK.yes("multiply() after clear()", x.multiply());
        CHECK.product("2 times 5", x, 10);
    }

    private static void clearBeforeInit() {
        TransformProduct x = new TransformProduct(3);
        x.feedA(2);
        x.take(0);
        x.clear();
        CHECK.product("cleared before init()", x);
        CHECK.no("multiply() before init()", x.multiply());
        CHECK.yes("init() after an early clear()", x.init());
    }

    private static void objectsAreApart() {
        TransformProduct x = new TransformProduct(3);
        TransformProduct y = new TransformProduct(3);
        x.init();
        CHECK.no("the other is not ready", y.square());
        y.init();
        x.feedA(11);
        y.feedA(12);
        x.square();
        y.square();
        CHECK.product("x", x, 121);
        CHECK.product("y", y, 144);
    }
}
