/** Promise 12: spectrum. */
public final class SpectrumTest {
    private static final Check CHECK = new Check();

    public static void main(String[] args) {
        notReady();
        for (int log = 1; log <= 5; log++) {
            everyNumber(log);
        }
        ofTheGreatestRow();
        wrongInputs();
        spectrumChangesNothing();
        CHECK.ended();
    }

    private static void notReady() {
        TransformProduct x = new TransformProduct(2);
        x.feedA(1);
        CHECK.same("spectrum(0, 0, 0) when not ready", x.spectrum(0, 0, 0), -1);
        x.init();
        CHECK.same("spectrum(0, 0, 0) when ready", x.spectrum(0, 0, 0), 1);
    }

    private static void everyNumber(int log) {
        int size = 1 << log;
        TransformProduct x = new TransformProduct(log);
        Model model = new Model(log);
        x.init();
        model.init();
        compare(x, model, size, "empty");
        for (int j = 0; j < size; j++) {
            int a = (j * 7919 + 12345) % 32768;
            x.feedA(a);
            model.repeat(0, a, 1);
            if (j < size / 2) {
                x.feedB(32767 - j);
                model.repeat(1, 32767 - j, 1);
            }
        }
        compare(x, model, size, "full A and half B");
    }

    private static void compare(TransformProduct x, Model model, int size, String name) {
        for (int which = 0; which < 2; which++) {
            for (int prime = 0; prime < 3; prime++) {
                for (int i = 0; i < size; i++) {
                    CHECK.same(name + ": spectrum(" + which + ", " + prime + ", " + i + ") of " + size,
                            x.spectrum(which, prime, i), model.spectrum(which, prime, i));
                }
            }
        }
    }

    private static void ofTheGreatestRow() {
        TransformProduct x = new TransformProduct(10);
        Model model = new Model(10);
        x.init();
        model.init();
        x.repeat(0, 32767, 1000);
        model.repeat(0, 32767, 1000);
        int[] numbers = {0, 1, 2, 511, 512, 513, 1022, 1023};
        for (int prime = 0; prime < 3; prime++) {
            for (int i : numbers) {
                CHECK.same("spectrum(0, " + prime + ", " + i + ") of 1024",
                        x.spectrum(0, prime, i), model.spectrum(0, prime, i));
            }
        }
    }

    private static void wrongInputs() {
        TransformProduct x = new TransformProduct(3);
        x.init();
        x.feedA(1);
        x.feedB(1);
        int[] far = {-1, Integer.MIN_VALUE, Integer.MAX_VALUE};
        for (int wrong : far) {
            CHECK.same("which " + wrong, x.spectrum(wrong, 0, 0), -1);
            CHECK.same("prime " + wrong, x.spectrum(0, wrong, 0), -1);
            CHECK.same("i " + wrong, x.spectrum(0, 0, wrong), -1);
        }
        CHECK.same("which 2", x.spectrum(2, 0, 0), -1);
        CHECK.same("prime 3", x.spectrum(1, 3, 0), -1);
        CHECK.same("i of N", x.spectrum(1, 2, 8), -1);
        CHECK.same("the last of all", x.spectrum(1, 2, 7), 1);
    }

    private static void spectrumChangesNothing() {
        TransformProduct x = new TransformProduct(3);
        x.init();
        x.feedA(6);
        x.feedB(7);
        x.multiply();
        x.spectrum(0, 0, 3);
        x.spectrum(1, 1, 2);
        CHECK.product("product over spectrum()", x, 42);
        x.take(0);
        CHECK.product("A over spectrum()", x, 6);
        x.take(1);
        CHECK.product("B over spectrum()", x, 7);
    }
}
