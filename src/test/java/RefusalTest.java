/**
 * 'Terms': a call that is refused changes nothing. Every call that is refused for its
 * arguments alone, in every kind of state; those that a state refuses stand with their promises.
 */
public final class RefusalTest {
    private static final Check CHECK = new Check();
    private static final int LEAST = Integer.MIN_VALUE;
    private static final int MOST = Integer.MAX_VALUE;

    public static void main(String[] args) {
        inState("new", 3, () -> new TransformProduct(3));
        inState("ready and empty", 3, () -> Made.ready(3, Made.row(), Made.row()));
        inState("not ready, with digits and a product", 3, RefusalTest::unreadyWithProduct);
        inState("after a product", 3, RefusalTest::afterProduct);
        inState("after a square", 3, RefusalTest::afterSquare);
        inState("after take", 3, RefusalTest::afterTake);
        inState("cleared", 3, RefusalTest::cleared);
        inState("full", 3, () -> Made.full(3));
        inState("full and the smallest", 1, () -> Made.full(1));
        inState("full and the greatest", 10, () -> Made.full(10));
        CHECK.ended();
    }

    private static TransformProduct unreadyWithProduct() {
        TransformProduct x = Made.unready(3, Made.row(1, 2, 0), Made.row(3, 0, 4));
        x.take(1);
        return x;
    }

    private static TransformProduct afterProduct() {
        return Made.multiplied(3, Made.row(32767, 1, 0), Made.row(32767, 5));
    }

    private static TransformProduct afterSquare() {
        TransformProduct x = Made.ready(3, Made.row(7, 32767), Made.row(1, 0));
        x.square();
        return x;
    }

    private static TransformProduct afterTake() {
        TransformProduct x = afterProduct();
        x.take(0);
        return x;
    }

    private static TransformProduct cleared() {
        TransformProduct x = afterProduct();
        x.clear();
        return x;
    }

    private static void inState(String name, int log, Twins.Maker maker) {
        Twins twins = new Twins(CHECK, name, maker);
        int size = 1 << log;
        whatIsNoDigit(twins);
        timesThatAreNone(twins, size);
        rowsThatAreNone(twins);
        digitsThatAreNone(twins, maker.make().length(), size);
        spectraThatAreNone(twins, size);
        divisorsThatAreNone(twins);
    }

    private static void whatIsNoDigit(Twins twins) {
        for (int digit : new int[] {-1, 32768, LEAST, MOST}) {
            twins.refuses("feedA(" + digit + ")", x -> x.feedA(digit));
            twins.refuses("feedB(" + digit + ")", x -> x.feedB(digit));
            for (int times = 0; times < 2; times++) {
                int many = times;
                twins.refuses("repeat(0, " + digit + ", " + many + ")", x -> x.repeat(0, digit, many));
                twins.refuses("repeat(1, " + digit + ", " + many + ")", x -> x.repeat(1, digit, many));
            }
        }
    }

    private static void timesThatAreNone(Twins twins, int size) {
        for (int times : new int[] {-1, LEAST, size + 1, MOST}) {
            twins.refuses("repeat(0, 0, " + times + ")", x -> x.repeat(0, 0, times));
            twins.refuses("repeat(1, 32767, " + times + ")", x -> x.repeat(1, 32767, times));
        }
    }

    private static void rowsThatAreNone(Twins twins) {
        for (int which : new int[] {-1, 2, LEAST, MOST}) {
            twins.refuses("take(" + which + ")", x -> x.take(which));
            twins.refuses("give(" + which + ")", x -> x.give(which));
            twins.refuses("repeat(" + which + ", 1, 1)", x -> x.repeat(which, 1, 1));
            twins.refuses("repeat(" + which + ", 1, 0)", x -> x.repeat(which, 1, 0));
        }
    }

    private static void digitsThatAreNone(Twins twins, int length, int size) {
        for (int i : new int[] {-1, length, size, LEAST, MOST}) {
            twins.hasNone("digit(" + i + ")", x -> x.digit(i));
        }
    }

    private static void spectraThatAreNone(Twins twins, int size) {
        for (int wrong : new int[] {-1, LEAST, MOST}) {
            twins.hasNone("spectrum(" + wrong + ", 0, 0)", x -> x.spectrum(wrong, 0, 0));
            twins.hasNone("spectrum(0, " + wrong + ", 0)", x -> x.spectrum(0, wrong, 0));
            twins.hasNone("spectrum(1, 2, " + wrong + ")", x -> x.spectrum(1, 2, wrong));
        }
        twins.hasNone("spectrum(2, 0, 0)", x -> x.spectrum(2, 0, 0));
        twins.hasNone("spectrum(1, 3, 0)", x -> x.spectrum(1, 3, 0));
        twins.hasNone("spectrum(0, 0, N)", x -> x.spectrum(0, 0, size));
        twins.hasNone("spectrum(1, 2, N)", x -> x.spectrum(1, 2, size));
    }

    private static void divisorsThatAreNone(Twins twins) {
        for (int m : new int[] {0, -1, 1000000001, LEAST, MOST}) {
            twins.hasNone("rest(" + m + ")", x -> x.rest(m));
        }
    }
}
