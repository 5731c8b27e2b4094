/** Promises 15 and 16: compare, rest. */
public final class NumberTest {
    private static final Check CHECK = new Check();

    public static void main(String[] args) {
        compared(new int[] {}, new int[] {}, 0);
        compared(new int[] {0, 0}, new int[] {}, 0);
        compared(new int[] {0}, new int[] {0, 0, 0, 0}, 0);
        compared(new int[] {1}, new int[] {}, 1);
        compared(new int[] {5, 0, 0}, new int[] {5}, 0);
        compared(new int[] {5, 0, 0, 0}, new int[] {6}, -1);
        compared(new int[] {32767}, new int[] {0, 1}, -1);
        compared(new int[] {9, 2}, new int[] {1, 3}, -1);
        compared(new int[] {9, 3}, new int[] {1, 3}, 1);
        compared(new int[] {1, 5, 7}, new int[] {2, 4, 7}, 1);
        compared(new int[] {1, 2, 3, 4}, new int[] {1, 2, 3, 4}, 0);
        compared(new int[] {0, 2, 3, 4}, new int[] {1, 2, 3, 4}, -1);
        compareChangesNothing();
        restOfNothing();
        restOfProducts();
        restIsRefused();
        CHECK.ended();
    }

    private static TransformProduct made(int[] a, int[] b) {
        TransformProduct x = new TransformProduct(2);
        for (int digit : a) {
            x.feedA(digit);
        }
        for (int digit : b) {
            x.feedB(digit);
        }
        return x;
    }

    private static void compared(int[] a, int[] b, int due) {
        String name = java.util.Arrays.toString(a) + " and " + java.util.Arrays.toString(b);
        CHECK.same("compare() of " + name, made(a, b).compare(), due);
        CHECK.same("compare() turned of " + name, made(b, a).compare(), -due);
    }

    private static void compareChangesNothing() {
        TransformProduct x = made(new int[] {1, 0, 0}, new int[] {2});
        x.compare();
        CHECK.yes("one more fits in A", x.feedA(1));
        CHECK.no("and no second: the zeros stayed", x.feedA(1));
    }

    private static void restOfNothing() {
        TransformProduct x = new TransformProduct(2);
        CHECK.same("rest(1)", x.rest(1), 0);
        CHECK.same("rest(1000000000)", x.rest(1000000000), 0);
    }

    private static void restOfProducts() {
        TransformProduct x = made(new int[] {32767, 32767, 32767, 32767}, new int[] {10, 1});
        x.take(1);
        CHECK.same("32778 by 1", x.rest(1), 0);
        CHECK.same("32778 by 2", x.rest(2), 0);
        CHECK.same("32778 by 10", x.rest(10), 8);
        CHECK.same("32778 by 32778", x.rest(32778), 0);
        CHECK.same("32778 by 32779", x.rest(32779), 32778);
        CHECK.same("32778 by 1000000000", x.rest(1000000000), 32778);
        x.take(0);
        CHECK.same("2^60 - 1 by 1000000000", x.rest(1000000000), 606846975);
        CHECK.same("2^60 - 1 by 999999999", x.rest(999999999), (int) (((1L << 60) - 1) % 999999999));
        CHECK.same("2^60 - 1 by 32768", x.rest(32768), 32767);
        CHECK.product("product over rest()", x, 32767, 32767, 32767, 32767);
    }

    private static void restIsRefused() {
        TransformProduct x = made(new int[] {7}, new int[] {});
        x.take(0);
        int[] wrong = {0, -1, -7, 1000000001, Integer.MIN_VALUE, Integer.MAX_VALUE};
        for (int m : wrong) {
            CHECK.same("rest(" + m + ")", x.rest(m), -1);
        }
        CHECK.product("after refusals", x, 7);
    }
}
