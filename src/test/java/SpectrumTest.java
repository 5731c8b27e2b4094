/** Promise 12: spectrum. */
public final class SpectrumTest {
    private static final Check CHECK = new Check();

    public static void main(String[] args) {
        notReady();
        ofNoDigits();
        for (int log = 1; log <= 5; log++) {
            everyNumber(log);
        }
        ofTheGreatestRow();
        noneSuch();
        spectrumChangesNothing();
        followsTheRow();
        CHECK.ended();
    }

    /** "NONE when it is not ready". */
    private static void notReady() {
        Twins fresh = new Twins(CHECK, "new", () -> new TransformProduct(2));
        Twins fed = new Twins(CHECK, "fed", () -> Made.unready(2, Made.row(1, 2), Made.row(3, 4)));
        Twins cleared = new Twins(CHECK, "cleared", () -> {
            TransformProduct x = Made.unready(2, Made.row(1, 2), Made.row(3, 4));
            x.clear();
            return x;
        });
        for (int which = 0; which < 2; which++) {
            for (int prime = 0; prime < 3; prime++) {
                int row = which;
                int by = prime;
                fresh.hasNone("spectrum(" + which + ", " + prime + ", 0)", x -> x.spectrum(row, by, 0));
                fed.hasNone("spectrum(" + which + ", " + prime + ", 0)", x -> x.spectrum(row, by, 0));
                fed.hasNone("spectrum(" + which + ", " + prime + ", 3)", x -> x.spectrum(row, by, 3));
                cleared.hasNone("spectrum(" + which + ", " + prime + ", 0)", x -> x.spectrum(row, by, 0));
            }
        }
        TransformProduct x = Made.unready(2, Made.row(1), Made.row());
        x.spectrum(0, 0, 0);
        x.init();
        CHECK.same("spectrum(0, 0, 0) when ready", x.spectrum(0, 0, 0), 1);
    }

    /** Rows without digits have a spectrum too: N times 0. */
    private static void ofNoDigits() {
        TransformProduct x = Made.ready(10, Made.row(), Made.row(0, 0));
        for (int prime = 0; prime < 3; prime++) {
            for (int i : new int[] {0, 1, 512, 1023}) {
                CHECK.same("spectrum(0, " + prime + ", " + i + ") of no digits", x.spectrum(0, prime, i), 0);
                CHECK.same("spectrum(1, " + prime + ", " + i + ") of zeros", x.spectrum(1, prime, i), 0);
            }
        }
    }

    private static void everyNumber(int log) {
        int size = 1 << log;
        TransformProduct x = new TransformProduct(log);
        Model model = new Model(log);
        x.init();
        model.init();
        compare(x, model, size, "empty");
        for (int j = 0; j < size; j++) {
            int a = (j * 7919 + 12345) % 32768;
            x.feedA(a);
            model.repeat(0, a, 1);
            if (j < size / 2) {
                x.feedB(32767 - j);
                model.repeat(1, 32767 - j, 1);
            }
        }
        compare(x, model, size, "full A and half B");
    }

    private static void compare(TransformProduct x, Model model, int size, String name) {
        for (int which = 0; which < 2; which++) {
            for (int prime = 0; prime < 3; prime++) {
                for (int i = 0; i < size; i++) {
                    CHECK.same(name + ": spectrum(" + which + ", " + prime + ", " + i + ") of " + size,
                            x.spectrum(which, prime, i), model.spectrum(which, prime, i));
                }
            }
        }
    }

    private static void ofTheGreatestRow() {
        TransformProduct x = new TransformProduct(10);
        Model model = new Model(10);
        x.init();
        model.init();
        x.repeat(0, 32767, 1000);
        model.repeat(0, 32767, 1000);
        int[] numbers = {0, 1, 2, 511, 512, 513, 1022, 1023};
        for (int prime = 0; prime < 3; prime++) {
            for (int i : numbers) {
                CHECK.same("spectrum(0, " + prime + ", " + i + ") of 1024",
                        x.spectrum(0, prime, i), model.spectrum(0, prime, i));
            }
        }
    }

    /** "of A (which = 0) or B (1), by the prime 0, 1 or 2; NONE when ... there are none such". */
    private static void noneSuch() {
        int[] far = {-1, Integer.MIN_VALUE, Integer.MAX_VALUE};
        for (int log = 1; log <= 10; log += 3) {
            int size = 1 << log;
            int usedLog = log;
            Twins twins = new Twins(CHECK, "log " + log, () -> Made.multiplied(usedLog, Made.row(1), Made.row(2)));
            for (int wrong : far) {
                twins.hasNone("which " + wrong, x -> x.spectrum(wrong, 0, 0));
                twins.hasNone("prime " + wrong, x -> x.spectrum(0, wrong, 0));
                twins.hasNone("i " + wrong, x -> x.spectrum(0, 0, wrong));
            }
            twins.hasNone("which 2", x -> x.spectrum(2, 0, 0));
            twins.hasNone("prime 3", x -> x.spectrum(1, 3, 0));
            twins.hasNone("i of N for A", x -> x.spectrum(0, 0, size));
            twins.hasNone("i of N for B", x -> x.spectrum(1, 2, size));
            twins.reads("the first of all", 1, x -> x.spectrum(0, 0, 0));
            twins.reads("the last of all", 2, x -> x.spectrum(1, 2, size - 1));
        }
    }

    private static void spectrumChangesNothing() {
        Twins twins = new Twins(CHECK, "full", () -> Made.full(3));
        twins.reads("spectrum(0, 0, 0)", 8 * 32767, x -> x.spectrum(0, 0, 0));
        twins.reads("spectrum(1, 1, 4)", 0, x -> x.spectrum(1, 1, 4));
    }

    /** A spectrum is of the digits that the row has now. */
    private static void followsTheRow() {
        TransformProduct x = Made.ready(2, Made.row(5), Made.row(1, 1));
        CHECK.same("spectrum(0, 0, 0)", x.spectrum(0, 0, 0), 5);
        x.feedA(6);
        CHECK.same("after feedA(6)", x.spectrum(0, 0, 0), 11);
        x.repeat(0, 7, 2);
        CHECK.same("after repeat(0, 7, 2)", x.spectrum(0, 0, 0), 25);
        x.take(1);
        x.give(0);
        CHECK.same("after give(0)", x.spectrum(0, 0, 0), 2);
        x.clear();
        CHECK.same("after clear()", x.spectrum(0, 0, 0), 0);
    }
}
