import java.util.Random;

/** Promises 7 to 11: multiply, square, length, digit, butterflies. */
public final class ProductTest {
    private static final Check CHECK = new Check();

    public static void main(String[] args) {
        smallProducts();
        productsWithZero();
        zerosAtTheEndAreLeftOut();
        multiplyIsRefused();
        squareIsRefused();
        digitsOutsideAreNone();
        for (int log = 1; log <= 10; log++) {
            greatestProducts(log);
            butterfliesOf(log);
            mixedProducts(log);
        }
        butterfliesAreTheLatest();
        factorsStay();
        CHECK.ended();
    }

    private static TransformProduct made(int log, int[] a, int[] b) {
        TransformProduct x = new TransformProduct(log);
        x.init();
        for (int digit : a) {
            x.feedA(digit);
        }
        for (int digit : b) {
            x.feedB(digit);
        }
        return x;
    }

    private static void smallProducts() {
        TransformProduct x = made(3, new int[] {1, 2, 3}, new int[] {4, 5});
        CHECK.yes("multiply()", x.multiply());
        CHECK.product("123 * 45", x, 4, 13, 22, 15);
        CHECK.yes("square()", x.square());
        CHECK.product("123 squared", x, 1, 4, 10, 12, 9);
        TransformProduct y = made(1, new int[] {32767}, new int[] {32767});
        CHECK.yes("multiply()", y.multiply());
        CHECK.product("32767 * 32767", y, 1, 32766);
    }

    private static void productsWithZero() {
        TransformProduct x = made(2, new int[] {}, new int[] {});
        CHECK.yes("multiply() of nothing", x.multiply());
        CHECK.product("nothing", x);
        CHECK.yes("square() of nothing", x.square());
        CHECK.product("nothing squared", x);
        x.repeat(1, 32767, 4);
        x.take(1);
        CHECK.yes("multiply() of none and N digits", x.multiply());
        CHECK.product("none by N", x);
        x.clear();
        x.repeat(0, 0, 2);
        x.repeat(1, 7, 2);
        CHECK.yes("multiply() of zeros", x.multiply());
        CHECK.product("zeros", x);
        CHECK.yes("square() of zeros", x.square());
        CHECK.product("zeros squared", x);
    }

    private static void zerosAtTheEndAreLeftOut() {
        TransformProduct x = made(3, new int[] {0, 3, 0, 0}, new int[] {0, 5, 0});
        CHECK.yes("multiply()", x.multiply());
        CHECK.product("with zeros", x, 0, 0, 15);
        CHECK.yes("square()", x.square());
        CHECK.product("square with zeros", x, 0, 0, 9);
    }

    private static void multiplyIsRefused() {
        TransformProduct x = new TransformProduct(2);
        x.feedA(2);
        x.feedB(3);
        x.take(1);
        CHECK.no("multiply() when not ready", x.multiply());
        CHECK.product("after a refusal", x, 3);
        x.init();
        x.repeat(0, 0, 2);
        CHECK.yes("multiply() of N digits together", x.multiply());
        CHECK.product("2 * 3", x, 6);
        x.square();
        x.feedB(0);
        x.take(0);
        CHECK.no("multiply() of N + 1 digits together", x.multiply());
        CHECK.product("after a refusal", x, 2);
        CHECK.same("butterflies() after a refusal", x.butterflies(), 36);
    }

    private static void squareIsRefused() {
        TransformProduct x = new TransformProduct(2);
        x.feedA(4);
        x.take(0);
        CHECK.no("square() when not ready", x.square());
        CHECK.product("after a refusal", x, 4);
        x.init();
        x.feedA(0);
        CHECK.yes("square() of N / 2 digits", x.square());
        CHECK.product("4 squared", x, 16);
        x.feedA(0);
        x.take(0);
        CHECK.no("square() of more than N / 2 digits", x.square());
        CHECK.product("after a refusal", x, 4);
        CHECK.same("butterflies() after a refusal", x.butterflies(), 24);
        x.clear();
        x.repeat(1, 1, 4);
        x.feedA(5);
        CHECK.yes("square() whatever B has", x.square());
        CHECK.product("5 squared", x, 25);
    }

    private static void digitsOutsideAreNone() {
        TransformProduct x = made(3, new int[] {300, 1}, new int[] {300, 1});
        x.multiply();
        CHECK.product("product", x, 24464, 602, 1);
        int[] outside = {-1, 3, 4, 7, 8, 1024, Integer.MIN_VALUE, Integer.MAX_VALUE};
        for (int i : outside) {
            CHECK.same("digit(" + i + ")", x.digit(i), -1);
        }
        x.clear();
        x.take(0);
        CHECK.same("digit(0) of no product", x.digit(0), -1);
    }

    /** (b^h - 1)^2 = b^2h - 2 b^h + 1: the coefficients are the greatest there are. */
    private static void greatestProducts(int log) {
        int half = 1 << (log - 1);
        int[] due = new int[2 * half];
        due[0] = 1;
        due[half] = 32766;
        for (int i = half + 1; i < due.length; i++) {
            due[i] = 32767;
        }
        TransformProduct x = new TransformProduct(log);
        x.init();
        x.repeat(0, 32767, half);
        x.repeat(1, 32767, half);
        CHECK.yes("multiply() log " + log, x.multiply());
        CHECK.product("greatest of log " + log, x, due);
        x.take(1);
        CHECK.yes("square() log " + log, x.square());
        CHECK.product("greatest square of log " + log, x, due);
    }

    private static void mixedProducts(int log) {
        Random random = new Random(log);
        int size = 1 << log;
        for (int round = 0; round < 12; round++) {
            int countA = round < 4 ? round * (size / 2) / 3 : random.nextInt(size + 1);
            TransformProduct x = new TransformProduct(log);
            Model model = new Model(log);
            x.init();
            model.init();
            feedMixed(random, x, model, 0, countA);
            feedMixed(random, x, model, 1, size - countA);
            String name = "log " + log + ", " + countA + " digits in A: ";
            CHECK.same(name + "multiply()", x.multiply() ? 1 : 0, model.multiply() ? 1 : 0);
            sameProduct(name + "product", x, model);
            CHECK.same(name + "square()", x.square() ? 1 : 0, model.square() ? 1 : 0);
            sameProduct(name + "square", x, model);
        }
    }

    /** In short runs of one digit each, to stay below 512 calls. */
    private static void feedMixed(Random random, TransformProduct x, Model model, int which, int count) {
        int longest = model.size / 64 + 1;
        for (int fed = 0; fed < count;) {
            int times = Math.min(count - fed, 1 + random.nextInt(longest));
            int digit = random.nextInt(32768);
            model.repeat(which, digit, times);
            CHECK.yes("repeat", x.repeat(which, digit, times));
            fed += times;
        }
    }

    private static void sameProduct(String name, TransformProduct x, Model model) {
        CHECK.product(name, x, model.productDigits());
    }

    private static void butterfliesOf(int log) {
        int[] transforms = {1, 4, 12, 32, 80, 192, 448, 1024, 2304, 5120};
        TransformProduct x = new TransformProduct(log);
        x.init();
        CHECK.same("butterflies() before", x.butterflies(), 0);
        x.multiply();
        CHECK.same("butterflies() of a product, log " + log, x.butterflies(), 9 * transforms[log - 1]);
        x.square();
        CHECK.same("butterflies() of a square, log " + log, x.butterflies(), 6 * transforms[log - 1]);
        x.clear();
        CHECK.same("butterflies() after clear()", x.butterflies(), 0);
    }

    private static void butterfliesAreTheLatest() {
        TransformProduct x = made(2, new int[] {1}, new int[] {1});
        x.multiply();
        x.multiply();
        CHECK.same("butterflies() of the latest alone", x.butterflies(), 36);
        x.take(0);
        x.give(1);
        x.spectrum(0, 0, 1);
        x.feedA(1);
        x.compare();
        x.rest(3);
        CHECK.same("butterflies() after other calls", x.butterflies(), 36);
        x.square();
        CHECK.same("butterflies() of the square", x.butterflies(), 24);
    }

    private static void factorsStay() {
        TransformProduct x = made(3, new int[] {1, 2}, new int[] {3, 0});
        x.multiply();
        x.multiply();
        CHECK.product("multiplied again", x, 3, 6);
        x.square();
        x.take(0);
        CHECK.product("A stays", x, 1, 2);
        x.take(1);
        CHECK.product("B stays", x, 3);
        x.repeat(1, 1, 4);
        CHECK.yes("six digits in B", x.multiply());
        x.feedB(1);
        CHECK.no("seven digits in B, so the zero stayed", x.multiply());
    }
}
