/** Promises 4 to 6: feedA, feedB, repeat. */
public final class FeedTest {
    private static final Check CHECK = new Check();
    private static final int[] NO_DIGITS = {-1, 32768, 65536, Integer.MIN_VALUE, Integer.MAX_VALUE};

    public static void main(String[] args) {
        for (int which = 0; which < 2; which++) {
            digitsGoToTheTop(which);
            whatIsNoDigitIsRefused(which);
            fullRowIsRefused(which);
            zerosAtTheEndCount(which);
            repeatFeedsManyTimes(which);
            repeatIsRefused(which);
        }
        rowsAreApart();
        CHECK.ended();
    }

    private static boolean feed(TransformProduct x, int which, int digit) {
        return which == 0 ? x.feedA(digit) : x.feedB(digit);
    }

    private static void row(String name, TransformProduct x, int which, int... digits) {
        x.take(which);
        CHECK.product(name + " of row " + which, x, digits);
    }

    private static void digitsGoToTheTop(int which) {
        TransformProduct x = new TransformProduct(3);
        CHECK.yes("feed 1", feed(x, which, 1));
        CHECK.yes("feed 0", feed(x, which, 0));
        CHECK.yes("feed 32767", feed(x, which, 32767));
        row("fed", x, which, 1, 0, 32767);
    }

    private static void whatIsNoDigitIsRefused(int which) {
        TransformProduct x = new TransformProduct(3);
        feed(x, which, 8);
        for (int digit : NO_DIGITS) {
            CHECK.no("feed " + digit, feed(x, which, digit));
        }
        row("after refusals", x, which, 8);
    }

    private static void fullRowIsRefused(int which) {
        TransformProduct x = new TransformProduct(2);
        for (int i = 1; i <= 4; i++) {
            CHECK.yes("feed " + i, feed(x, which, i));
        }
        CHECK.no("feed 5 to a full row", feed(x, which, 5));
        row("full", x, which, 1, 2, 3, 4);
    }

    private static void zerosAtTheEndCount(int which) {
        TransformProduct x = new TransformProduct(2);
        for (int i = 1; i <= 4; i++) {
            CHECK.yes("feed 0", feed(x, which, 0));
        }
        CHECK.no("feed beyond zeros", feed(x, which, 1));
        CHECK.no("repeat beyond zeros", x.repeat(which, 1, 1));
        row("zeros", x, which);
    }

    private static void repeatFeedsManyTimes(int which) {
        TransformProduct x = new TransformProduct(3);
        CHECK.yes("repeat 0 times", x.repeat(which, 7, 0));
        row("nothing", x, which);
        CHECK.yes("repeat twice", x.repeat(which, 7, 2));
        CHECK.yes("repeat once", x.repeat(which, 32767, 1));
        CHECK.yes("repeat zeros", x.repeat(which, 0, 2));
        CHECK.yes("repeat up to N", x.repeat(which, 9, 3));
        row("repeated", x, which, 7, 7, 32767, 0, 0, 9, 9, 9);
        CHECK.yes("repeat 0 times in a full row", x.repeat(which, 7, 0));
        CHECK.no("repeat once in a full row", x.repeat(which, 7, 1));
        row("still", x, which, 7, 7, 32767, 0, 0, 9, 9, 9);
    }

    private static void repeatIsRefused(int which) {
        TransformProduct x = new TransformProduct(3);
        x.repeat(which, 5, 3);
        for (int digit : NO_DIGITS) {
            CHECK.no("repeat digit " + digit, x.repeat(which, digit, 1));
            CHECK.no("repeat digit " + digit + " no times", x.repeat(which, digit, 0));
        }
        int[] times = {-1, 6, 1000, Integer.MIN_VALUE, Integer.MAX_VALUE};
        for (int many : times) {
            CHECK.no("repeat times " + many, x.repeat(which, 5, many));
        }
        int[] others = {-1, 2, 3, Integer.MIN_VALUE, Integer.MAX_VALUE};
        for (int other : others) {
            CHECK.no("repeat which " + other, x.repeat(other, 5, 1));
            CHECK.no("repeat which " + other + " no times", x.repeat(other, 5, 0));
        }
        row("after refusals", x, which, 5, 5, 5);
        row("the other after refusals", x, 1 - which);
    }

    private static void rowsAreApart() {
        TransformProduct x = new TransformProduct(2);
        x.feedA(1);
        x.feedB(2);
        x.repeat(0, 3, 1);
        x.repeat(1, 4, 2);
        row("A", x, 0, 1, 3);
        row("B", x, 1, 2, 4, 4);
    }
}
