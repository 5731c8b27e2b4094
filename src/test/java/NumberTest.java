import java.math.BigInteger;

/** Promises 15 and 16: compare, rest. */
public final class NumberTest {
    private static final Check CHECK = new Check();

    public static void main(String[] args) {
        compared(Made.row(), Made.row(), 0);
        compared(Made.row(0, 0), Made.row(), 0);
        compared(Made.row(0), Made.row(0, 0, 0, 0), 0);
        compared(Made.row(1), Made.row(), 1);
        compared(Made.row(5, 0, 0), Made.row(5), 0);
        compared(Made.row(5, 0, 0, 0), Made.row(6), -1);
        compared(Made.row(32767), Made.row(0, 1), -1);
        compared(Made.row(9, 2), Made.row(1, 3), -1);
        compared(Made.row(9, 3), Made.row(1, 3), 1);
        compared(Made.row(1, 5, 7), Made.row(2, 4, 7), 1);
        compared(Made.row(1, 2, 3, 4), Made.row(1, 2, 3, 4), 0);
        compared(Made.row(0, 2, 3, 4), Made.row(1, 2, 3, 4), -1);
        for (int log = 1; log <= 10; log++) {
            comparedFull(log);
        }
        comparedRowsKeepTheirZeros();
        comparedAfterClear();
        restOfNothing();
        restOfProducts();
        restOfTheGreatest();
        restIsRefused();
        CHECK.ended();
    }

    /** Promise 15, and with A and B exchanged. */
    private static void compared(int[] a, int[] b, int due) {
        String name = java.util.Arrays.toString(a) + " and " + java.util.Arrays.toString(b);
        Twins twins = new Twins(CHECK, name, () -> Made.multiplied(2, a, b));
        twins.reads("compare()", due, x -> x.compare());
        Twins turned = new Twins(CHECK, name + " exchanged", () -> Made.unready(2, b, a));
        turned.reads("compare()", -due, x -> x.compare());
    }

    /** Rows of N digits that differ in the lowest, in the highest or in none. */
    private static void comparedFull(int log) {
        int size = 1 << log;
        for (int differing : new int[] {-1, 0, size - 1}) {
            TransformProduct x = new TransformProduct(log);
            x.repeat(0, 7, size);
            if (differing >= 0) {
                x.repeat(1, 7, differing);
                x.feedB(8);
                x.repeat(1, 7, size - 1 - differing);
            } else {
                x.repeat(1, 7, size);
            }
            CHECK.same("compare() of full rows that differ in " + differing, x.compare(), differing < 0 ? 0 : -1);
        }
    }

    private static void comparedRowsKeepTheirZeros() {
        TransformProduct x = Made.unready(2, Made.row(1, 0, 0), Made.row(2, 0, 0));
        x.compare();
        CHECK.yes("one more fits in A", x.feedA(1));
        CHECK.no("and no second", x.feedA(1));
        CHECK.yes("one more fits in B", x.feedB(1));
        CHECK.no("and no second", x.feedB(1));
    }

    /** Digits that an earlier, longer row has left behind are no digits. */
    private static void comparedAfterClear() {
        TransformProduct x = Made.full(3);
        x.clear();
        CHECK.same("compare() of nothing after full rows", x.compare(), 0);
        x.feedA(1);
        CHECK.same("compare() of 1 and nothing", x.compare(), 1);
        x.feedB(1);
        CHECK.same("compare() of 1 and 1", x.compare(), 0);
        x.feedB(0);
        x.feedB(1);
        CHECK.same("compare() of 1 and more", x.compare(), -1);
    }

    /** Promise 16: 0 leaves 0. */
    private static void restOfNothing() {
        Twins fresh = new Twins(CHECK, "new", () -> new TransformProduct(2));
        Twins zero = new Twins(CHECK, "zero", () -> Made.multiplied(2, Made.row(0), Made.row(5)));
        for (int m : new int[] {1, 2, 999999999, 1000000000}) {
            fresh.reads("rest(" + m + ")", 0, x -> x.rest(m));
            zero.reads("rest(" + m + ")", 0, x -> x.rest(m));
        }
    }

    private static void restOfProducts() {
        TransformProduct x = Made.unready(2, Made.row(32767, 32767, 32767, 32767), Made.row(10, 1));
        x.take(1);
        CHECK.same("32778 by 1", x.rest(1), 0);
        CHECK.same("32778 by 2", x.rest(2), 0);
        CHECK.same("32778 by 10", x.rest(10), 8);
        CHECK.same("32778 by 32778", x.rest(32778), 0);
        CHECK.same("32778 by 32779", x.rest(32779), 32778);
        CHECK.same("32778 by 1000000000", x.rest(1000000000), 32778);
        x.take(0);
        CHECK.same("2^60 - 1 by 1000000000", x.rest(1000000000), 606846975);
        CHECK.same("2^60 - 1 by 999999999", x.rest(999999999), (int) (((1L << 60) - 1) % 999999999));
        CHECK.same("2^60 - 1 by 32768", x.rest(32768), 32767);
        CHECK.product("product over rest()", x, 32767, 32767, 32767, 32767);
    }

    /** The greatest product by the greatest numbers: nothing runs over. */
    private static void restOfTheGreatest() {
        BigInteger greatest = BigInteger.ONE.shiftLeft(15 * 1024).subtract(BigInteger.ONE);
        TransformProduct x = new TransformProduct(10);
        x.repeat(0, 32767, 1024);
        x.take(0);
        for (int m : new int[] {1, 2, 3, 32767, 32768, 32769, 999999937, 999999999, 1000000000}) {
            CHECK.same("b^1024 - 1 by " + m, x.rest(m), greatest.mod(BigInteger.valueOf(m)).longValueExact());
        }
    }

    /** Promise 16: "NONE when m is not 1 .. 1000000000". */
    private static void restIsRefused() {
        Twins fresh = new Twins(CHECK, "new", () -> new TransformProduct(2));
        Twins some = new Twins(CHECK, "42", () -> Made.multiplied(2, Made.row(6), Made.row(7)));
        for (int m : new int[] {0, -1, -7, -1000000000, 1000000001, Integer.MIN_VALUE, Integer.MAX_VALUE}) {
            fresh.hasNone("rest(" + m + ")", x -> x.rest(m));
            some.hasNone("rest(" + m + ")", x -> x.rest(m));
        }
        some.reads("rest(1)", 0, x -> x.rest(1));
        some.reads("rest(1000000000)", 42, x -> x.rest(1000000000));
    }
}
