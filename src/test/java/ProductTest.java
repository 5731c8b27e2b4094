import java.util.Random;

/** Promises 7 and 8: what multiply and square make; their limits stand in ProductEdgeTest. */
public final class ProductTest {
    private static final Check CHECK = new Check();

    public static void main(String[] args) {
        smallProducts();
        for (int log = 1; log <= 10; log++) {
            greatestProducts(log);
            mixedProducts(log);
        }
        carryThroughAllDigits();
        shorterProductReplacesALongerOne();
        productsAreNotWrappedAround();
        factorsStay();
        CHECK.ended();
    }

    private static void smallProducts() {
        TransformProduct x = Made.ready(3, Made.row(1, 2, 3), Made.row(4, 5));
        CHECK.yes("multiply()", x.multiply());
        CHECK.product("123 * 45", x, 4, 13, 22, 15);
        CHECK.yes("square()", x.square());
        CHECK.product("123 squared", x, 1, 4, 10, 12, 9);
        TransformProduct y = Made.ready(1, Made.row(32767), Made.row(32767));
        CHECK.yes("multiply()", y.multiply());
        CHECK.product("32767 * 32767", y, 1, 32766);
    }

    /** (b^h - 1)^2 = b^2h - 2 b^h + 1: the coefficients are the greatest there are. */
    private static void greatestProducts(int log) {
        int half = 1 << (log - 1);
        int[] due = new int[2 * half];
        due[0] = 1;
        due[half] = 32766;
        for (int i = half + 1; i < due.length; i++) {
            due[i] = 32767;
        }
        TransformProduct x = new TransformProduct(log);
        x.init();
        x.repeat(0, 32767, half);
        x.repeat(1, 32767, half);
        CHECK.yes("multiply() log " + log, x.multiply());
        CHECK.product("greatest of log " + log, x, due);
        x.take(1);
        CHECK.yes("square() log " + log, x.square());
        CHECK.product("greatest square of log " + log, x, due);
    }

    private static void mixedProducts(int log) {
        Random random = new Random(log);
        int size = 1 << log;
        for (int round = 0; round < 12; round++) {
            int countA = round < 4 ? round * (size / 2) / 3 : random.nextInt(size + 1);
            TransformProduct x = new TransformProduct(log);
            Model model = new Model(log);
            x.init();
            model.init();
            feedMixed(random, x, model, 0, countA);
            feedMixed(random, x, model, 1, size - countA);
            String name = "log " + log + ", " + countA + " digits in A: ";
            CHECK.same(name + "multiply()", x.multiply() ? 1 : 0, model.multiply() ? 1 : 0);
            sameProduct(name + "product", x, model);
            CHECK.same(name + "square()", x.square() ? 1 : 0, model.square() ? 1 : 0);
            sameProduct(name + "square", x, model);
        }
    }

    /** In short runs of one digit each, to stay below 512 calls. */
    private static void feedMixed(Random random, TransformProduct x, Model model, int which, int count) {
        int longest = model.size / 64 + 1;
        for (int fed = 0; fed < count;) {
            int times = Math.min(count - fed, 1 + random.nextInt(longest));
            int digit = random.nextInt(32768);
            model.repeat(which, digit, times);
            CHECK.yes("repeat", x.repeat(which, digit, times));
            fed += times;
        }
    }

    private static void sameProduct(String name, TransformProduct x, Model model) {
        CHECK.product(name, x, model.productDigits());
    }

    /** Twice b^1023 - 1: every digit hands a carry to the next, up to the N-th. */
    private static void carryThroughAllDigits() {
        TransformProduct x = new TransformProduct(10);
        x.init();
        x.repeat(0, 32767, 1023);
        x.feedB(2);
        CHECK.yes("multiply() of 1023 and 1 digits", x.multiply());
        int[] due = new int[1024];
        java.util.Arrays.fill(due, 32767);
        due[0] = 32766;
        due[1023] = 1;
        CHECK.product("twice 1023 digits", x, due);
    }

    private static void shorterProductReplacesALongerOne() {
        TransformProduct x = Made.full(3);
        CHECK.same("length() before", x.length(), 8);
        x.take(0);
        x.clear();
        x.feedA(3);
        x.feedB(4);
        x.repeat(1, 0, 3);
        CHECK.yes("multiply()", x.multiply());
        CHECK.product("3 * 4", x, 12);
        x.take(1);
        CHECK.yes("square()", x.square());
        CHECK.product("3 * 3", x, 9);
    }

    /** N digits together: the top of the product must not come round to its lowest digits. */
    private static void productsAreNotWrappedAround() {
        for (int log = 1; log <= 10; log++) {
            int size = 1 << log;
            for (int countA = 1; countA < size; countA = countA < 4 ? countA + 1 : countA * 2 + 1) {
                TransformProduct x = new TransformProduct(log);
                x.init();
                x.repeat(0, 0, countA - 1);
                x.feedA(32767);
                x.repeat(1, 0, size - countA - 1);
                x.feedB(32767);
                CHECK.yes("multiply() of N digits", x.multiply());
                int[] due = new int[size];
                due[size - 2] = 1;
                due[size - 1] = 32766;
                CHECK.product("log " + log + ", top digits of " + countA, x, due);
            }
        }
    }

    private static void factorsStay() {
        TransformProduct x = Made.ready(3, Made.row(1, 2), Made.row(3, 0));
        x.multiply();
        x.multiply();
        CHECK.product("multiplied again", x, 3, 6);
        x.square();
        x.take(0);
        CHECK.product("A stays", x, 1, 2);
        x.take(1);
        CHECK.product("B stays", x, 3);
        x.repeat(1, 1, 4);
        CHECK.yes("six digits in B", x.multiply());
        x.feedB(1);
        CHECK.no("seven digits in B, so the zero stayed", x.multiply());
        TransformProduct y = Made.ready(3, Made.row(1, 0, 0), Made.row(2, 0));
        y.square();
        y.square();
        CHECK.product("squared again", y, 1);
        CHECK.yes("five more digits in A", y.repeat(0, 1, 5));
        CHECK.no("and no sixth, so the zeros stayed", y.feedA(1));
        CHECK.yes("six more digits in B", y.repeat(1, 1, 6));
        CHECK.no("and no seventh, so the zero stayed", y.feedB(1));
    }
}
