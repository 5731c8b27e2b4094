/** Promises 7 to 11: what multiply, square, length, digit and butterflies answer at their limits. */
public final class ProductEdgeTest {
    private static final Check CHECK = new Check();

    public static void main(String[] args) {
        multiplyWhenNotReady();
        multiplyOfNDigitsTogether();
        multiplyOfMoreThanNDigits();
        multiplyOfNothing();
        squareWhenNotReady();
        squareOfHalfOfN();
        squareOfMoreThanHalfOfN();
        squareOfNothing();
        squareWhateverBHas();
        lengthFromNoneToN();
        digitsThereAre();
        digitsThereAreNot();
        butterfliesWhenThereWasNone();
        butterfliesSinceTheLatestClear();
        butterfliesOfTheLatestAlone();
        butterfliesOverOtherCalls();
        CHECK.ended();
    }

    private static TransformProduct filled(int log, int countA, int countB, int digit) {
        TransformProduct x = new TransformProduct(log);
        x.init();
        x.repeat(0, digit, countA);
        x.repeat(1, digit, countB);
        return x;
    }

    private static TransformProduct withProduct(TransformProduct x) {
        x.take(1);
        return x;
    }

    /** Promise 7: "false when it is not ready". */
    private static void multiplyWhenNotReady() {
        Twins fresh = new Twins(CHECK, "new", () -> new TransformProduct(3));
        fresh.refuses("multiply()", x -> x.multiply());
        Twins fed = new Twins(CHECK, "fed", () -> withProduct(Made.unready(3, Made.row(2), Made.row(3, 0))));
        fed.refuses("multiply()", x -> x.multiply());
        Twins tooLong = new Twins(CHECK, "too long",
                () -> withProduct(Made.unready(1, Made.row(2, 3), Made.row(3, 4))));
        tooLong.refuses("multiply()", x -> x.multiply());
        TransformProduct x = Made.unready(3, Made.row(2), Made.row(3));
        x.multiply();
        x.init();
        CHECK.yes("multiply() when ready", x.multiply());
        CHECK.product("2 * 3", x, 6);
    }

    /** Promise 7: N digits together are not more than N, however they are parted; zeros count. */
    private static void multiplyOfNDigitsTogether() {
        for (int log = 1; log <= 10; log++) {
            int size = 1 << log;
            for (int countA : new int[] {0, 1, size / 2, size - 1, size}) {
                TransformProduct x = filled(log, countA, size - countA, 0);
                CHECK.yes("multiply() of " + countA + " digits of " + size, x.multiply());
                CHECK.product("zeros", x);
            }
        }
    }

    /** Promise 7: "or both have more than N digits together": by one, and by as many as there can be. */
    private static void multiplyOfMoreThanNDigits() {
        for (int log = 1; log <= 10; log += 3) {
            int size = 1 << log;
            for (int countA : new int[] {1, size / 2, size}) {
                tooLongFor(log, countA, size - countA + 1, 0);
                tooLongFor(log, countA, size - countA + 1, 32767);
                tooLongFor(log, size, countA, 1);
            }
        }
    }

    private static void tooLongFor(int log, int countA, int countB, int digit) {
        String name = "log " + log + ", " + countA + " and " + countB + " digits " + digit;
        Twins twins = new Twins(CHECK, name, () -> withProduct(filled(log, countA, countB, digit)));
        twins.refuses("multiply()", x -> x.multiply());
        Twins used = new Twins(CHECK, name + " after a square", () -> {
            TransformProduct x = Made.ready(log, Made.row(5), Made.row());
            x.square();
            x.repeat(0, digit, countA - 1);
            x.repeat(1, digit, countB);
            return x;
        });
        used.refuses("multiply()", x -> x.multiply());
    }

    /** Promise 7: no digits at all, or none on one side. */
    private static void multiplyOfNothing() {
        int[][] rows = {Made.row(), Made.row(7), Made.row(7, 8, 9, 1)};
        for (int[] row : rows) {
            TransformProduct x = withProduct(Made.ready(2, Made.row(), row));
            CHECK.yes("multiply() of none by " + row.length, x.multiply());
            CHECK.product("none by " + row.length, x);
            CHECK.same("butterflies() of none by " + row.length, x.butterflies(), 36);
            TransformProduct y = Made.ready(2, row, Made.row());
            y.take(0);
            CHECK.yes("multiply() of " + row.length + " by none", y.multiply());
            CHECK.product(row.length + " by none", y);
        }
    }

    /** Promise 8: "false when it is not ready". */
    private static void squareWhenNotReady() {
        Twins fresh = new Twins(CHECK, "new", () -> new TransformProduct(3));
        fresh.refuses("square()", x -> x.square());
        Twins fed = new Twins(CHECK, "fed", () -> withProduct(Made.unready(3, Made.row(2), Made.row(3, 0))));
        fed.refuses("square()", x -> x.square());
        Twins tooLong = new Twins(CHECK, "too long", () -> withProduct(Made.unready(1, Made.row(2, 3), Made.row(3))));
        tooLong.refuses("square()", x -> x.square());
        TransformProduct x = Made.unready(3, Made.row(4), Made.row());
        x.square();
        x.init();
        CHECK.yes("square() when ready", x.square());
        CHECK.product("4 * 4", x, 16);
    }

    /** Promise 8: twice N / 2 digits are not more than N; zeros count. */
    private static void squareOfHalfOfN() {
        for (int log = 1; log <= 10; log++) {
            int half = 1 << (log - 1);
            TransformProduct x = filled(log, half, 0, 0);
            CHECK.yes("square() of " + half + " zeros", x.square());
            CHECK.product("zeros", x);
            TransformProduct y = filled(log, half, 0, 32767);
            CHECK.yes("square() of " + half + " digits", y.square());
            CHECK.same("length() of the greatest square", y.length(), 2 * half);
        }
    }

    /** Promise 8: "or twice A's digits are more than N": by one digit, and by as many as there can be. */
    private static void squareOfMoreThanHalfOfN() {
        for (int log = 1; log <= 10; log += 3) {
            int half = 1 << (log - 1);
            for (int count : new int[] {half + 1, 2 * half}) {
                tooLongForSquare(log, count, 0);
                tooLongForSquare(log, count, 32767);
            }
        }
    }

    private static void tooLongForSquare(int log, int countA, int digit) {
        String name = "log " + log + ", " + countA + " digits " + digit;
        Twins taken = new Twins(CHECK, name, () -> withProduct(filled(log, countA, 1 << log, digit)));
        taken.refuses("square()", x -> x.square());
        Twins used = new Twins(CHECK, name + " after a product", () -> {
            TransformProduct x = Made.multiplied(log, Made.row(5), Made.row(6));
            x.repeat(0, digit, countA - 1);
            return x;
        });
        used.refuses("square()", x -> x.square());
    }

    private static void squareOfNothing() {
        TransformProduct x = withProduct(Made.ready(2, Made.row(), Made.row(7)));
        CHECK.yes("square() of nothing", x.square());
        CHECK.product("nothing squared", x);
        CHECK.same("butterflies() of nothing squared", x.butterflies(), 24);
    }

    private static void squareWhateverBHas() {
        TransformProduct x = filled(2, 0, 4, 1);
        x.feedA(5);
        CHECK.yes("square() beside a full B", x.square());
        CHECK.product("5 squared", x, 25);
    }

    /** Promise 9: from none of digits up to N. */
    private static void lengthFromNoneToN() {
        Twins fresh = new Twins(CHECK, "new", () -> new TransformProduct(3));
        fresh.reads("length()", 0, x -> x.length());
        Twins zero = new Twins(CHECK, "zero", () -> Made.multiplied(3, Made.row(0, 0), Made.row(7, 1)));
        zero.reads("length()", 0, x -> x.length());
        Twins one = new Twins(CHECK, "one digit", () -> Made.multiplied(3, Made.row(1, 0), Made.row(1, 0)));
        one.reads("length()", 1, x -> x.length());
        for (int log = 1; log <= 10; log++) {
            int usedLog = log;
            Twins full = new Twins(CHECK, "full of log " + log, () -> Made.full(usedLog));
            full.reads("length()", 1 << log, x -> x.length());
            TransformProduct taken = Made.full(log);
            taken.take(0);
            CHECK.same("length() of a full row taken", taken.length(), 1 << log);
        }
    }

    /** Promise 10: "Digit i of the product": the first and the last. */
    private static void digitsThereAre() {
        for (int log = 1; log <= 10; log++) {
            int usedLog = log;
            int size = 1 << log;
            Twins full = new Twins(CHECK, "full of log " + log, () -> Made.full(usedLog));
            full.reads("digit(0)", 1, x -> x.digit(0));
            full.reads("digit(N - 1)", log == 1 ? 32766 : 32767, x -> x.digit(size - 1));
            full.hasNone("digit(N)", x -> x.digit(size));
        }
        Twins inner = new Twins(CHECK, "zeros inside", () -> Made.multiplied(3, Made.row(0, 2), Made.row(0, 3)));
        inner.reads("digit(0)", 0, x -> x.digit(0));
        inner.reads("digit(2)", 6, x -> x.digit(2));
    }

    /** Promise 10: "NONE when there is none such". */
    private static void digitsThereAreNot() {
        int[] outside = {-1, 3, 4, 7, 8, 1024, Integer.MIN_VALUE, Integer.MAX_VALUE};
        Twins fresh = new Twins(CHECK, "new", () -> new TransformProduct(3));
        Twins some = new Twins(CHECK, "three digits", () -> Made.multiplied(3, Made.row(300, 1), Made.row(300, 1, 0)));
        Twins shorter = new Twins(CHECK, "three digits after eight", () -> {
            TransformProduct x = Made.full(3);
            x.clear();
            x.repeat(0, 1, 3);
            x.take(0);
            return x;
        });
        for (int i : outside) {
            fresh.hasNone("digit(" + i + ")", x -> x.digit(i));
            some.hasNone("digit(" + i + ")", x -> x.digit(i));
            shorter.hasNone("digit(" + i + ")", x -> x.digit(i));
        }
        fresh.hasNone("digit(0)", x -> x.digit(0));
        some.reads("digit(2)", 1, x -> x.digit(2));
    }

    /** Promise 11: "0 when there was none": taking, giving and refused calls are no products. */
    private static void butterfliesWhenThereWasNone() {
        Twins fresh = new Twins(CHECK, "new", () -> new TransformProduct(3));
        fresh.reads("butterflies()", 0, x -> x.butterflies());
        TransformProduct x = Made.unready(1, Made.row(1, 2), Made.row(3));
        x.multiply();
        x.square();
        CHECK.same("butterflies() after refusals for not ready", x.butterflies(), 0);
        x.init();
        x.multiply();
        x.square();
        CHECK.same("butterflies() after refusals for too many digits", x.butterflies(), 0);
        x.take(0);
        x.give(1);
        x.spectrum(0, 0, 1);
        CHECK.same("butterflies() after take(), give() and spectrum()", x.butterflies(), 0);
    }

    /** Promise 11: "since the latest clear()". */
    private static void butterfliesSinceTheLatestClear() {
        TransformProduct x = Made.multiplied(2, Made.row(1), Made.row(1));
        x.clear();
        CHECK.same("butterflies() after clear()", x.butterflies(), 0);
        x.repeat(0, 1, 3);
        x.feedB(1);
        x.feedB(1);
        x.multiply();
        x.square();
        CHECK.same("butterflies() after clear() and refusals", x.butterflies(), 0);
        x.clear();
        x.square();
        CHECK.same("butterflies() of a square after clear()", x.butterflies(), 24);
        x.clear();
        x.multiply();
        CHECK.same("butterflies() of a product after clear()", x.butterflies(), 36);
    }

    /** Promise 11: "the latest product or square took", not all of them. */
    private static void butterfliesOfTheLatestAlone() {
        TransformProduct x = Made.multiplied(2, Made.row(1), Made.row(1));
        x.multiply();
        CHECK.same("butterflies() of two products", x.butterflies(), 36);
        x.square();
        CHECK.same("butterflies() of the square", x.butterflies(), 24);
        x.square();
        CHECK.same("butterflies() of two squares", x.butterflies(), 24);
        x.multiply();
        CHECK.same("butterflies() of the product", x.butterflies(), 36);
    }

    private static void butterfliesOverOtherCalls() {
        TransformProduct x = Made.multiplied(2, Made.row(1), Made.row(1));
        x.take(0);
        x.give(1);
        x.spectrum(0, 0, 1);
        x.feedA(1);
        x.repeat(1, 1, 2);
        x.compare();
        x.rest(3);
        x.init();
        CHECK.same("butterflies() after other calls", x.butterflies(), 36);
        CHECK.no("multiply() of 5 digits", x.multiply());
        CHECK.same("butterflies() after a refused multiply()", x.butterflies(), 36);
        x.square();
        x.feedA(1);
        CHECK.no("square() of 3 digits", x.square());
        CHECK.same("butterflies() after a refused square()", x.butterflies(), 24);
    }
}
