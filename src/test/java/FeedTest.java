/** Promises 4 to 6: feedA, feedB, repeat. */
public final class FeedTest {
    private static final Check CHECK = new Check();
    private static final int[] NO_DIGITS = {-1, 32768, 65536, Integer.MIN_VALUE, Integer.MAX_VALUE};

    public static void main(String[] args) {
        for (int which = 0; which < 2; which++) {
            digitsGoToTheTop(which);
            whatIsNoDigitIsRefused(which);
            fullRowIsRefused(which);
            rowFilledOtherwiseIsRefused(which);
            roomAgainWhenARowGetsShorter(which);
            repeatFeedsManyTimes(which);
            repeatNoTimes(which);
            repeatOfNoDigitIsRefused(which);
            repeatOfNoTimesSuchIsRefused(which);
            repeatUpToN(which);
            repeatBeyondN(which);
        }
        repeatOfNoRowIsRefused();
        rowsAreApart();
        CHECK.ended();
    }

    private static boolean feed(TransformProduct x, int which, int digit) {
        return which == 0 ? x.feedA(digit) : x.feedB(digit);
    }

    private static void row(String name, TransformProduct x, int which, int... digits) {
        x.take(which);
        CHECK.product(name + " of row " + which, x, digits);
    }

    /** Both rows alike, beside a product of its own. */
    private static TransformProduct with(int log, int... digits) {
        return Made.multiplied(log, digits, digits);
    }

    /** Promises 4 and 5: "One more digit ..., the highest." */
    private static void digitsGoToTheTop(int which) {
        TransformProduct x = new TransformProduct(3);
        CHECK.yes("feed 1", feed(x, which, 1));
        row("one", x, which, 1);
        CHECK.yes("feed 0", feed(x, which, 0));
        CHECK.yes("feed 32767", feed(x, which, 32767));
        row("fed", x, which, 1, 0, 32767);
    }

    /** Promises 4 and 5: "false when it is no digit". */
    private static void whatIsNoDigitIsRefused(int which) {
        Twins empty = new Twins(CHECK, "empty", () -> new TransformProduct(3));
        Twins some = new Twins(CHECK, "some", () -> with(3, 8, 0));
        Twins full = new Twins(CHECK, "full", () -> Made.full(2));
        for (int digit : NO_DIGITS) {
            empty.refuses("feed " + digit, x -> feed(x, which, digit));
            some.refuses("feed " + digit, x -> feed(x, which, digit));
            full.refuses("feed " + digit, x -> feed(x, which, digit));
        }
    }

    /** Promises 4 and 5: "or there are N": the N-th is fed, the next is not. */
    private static void fullRowIsRefused(int which) {
        TransformProduct x = new TransformProduct(2);
        for (int i = 1; i <= 4; i++) {
            CHECK.yes("feed " + i, feed(x, which, i));
        }
        CHECK.no("feed 5 to a full row", feed(x, which, 5));
        row("full", x, which, 1, 2, 3, 4);
        Twins full = new Twins(CHECK, "full", () -> Made.full(2));
        Twins zeros = new Twins(CHECK, "zeros", () -> with(2, 0, 0, 0, 0));
        for (int digit : new int[] {0, 1, 32767}) {
            full.refuses("feed " + digit, y -> feed(y, which, digit));
            zeros.refuses("feed " + digit, y -> feed(y, which, digit));
        }
    }

    private static void rowFilledOtherwiseIsRefused(int which) {
        TransformProduct x = new TransformProduct(2);
        x.repeat(which, 6, 4);
        CHECK.no("feed to a row that repeat() filled", feed(x, which, 1));
        TransformProduct y = new TransformProduct(2);
        y.repeat(1 - which, 6, 4);
        y.take(1 - which);
        y.give(which);
        CHECK.no("feed to a row that give() filled", feed(y, which, 1));
        row("given", y, which, 6, 6, 6, 6);
    }

    private static void roomAgainWhenARowGetsShorter(int which) {
        TransformProduct x = Made.full(2);
        x.clear();
        CHECK.yes("feed after clear()", feed(x, which, 1));
        row("after clear()", x, which, 1);
        TransformProduct y = new TransformProduct(2);
        y.repeat(which, 6, 4);
        y.give(which);
        CHECK.yes("feed after give() of nothing", feed(y, which, 2));
        row("after give()", y, which, 2);
    }

    /** Promise 6: "A digit so many times ... more". */
    private static void repeatFeedsManyTimes(int which) {
        TransformProduct x = new TransformProduct(3);
        CHECK.yes("repeat twice", x.repeat(which, 7, 2));
        CHECK.yes("repeat once", x.repeat(which, 32767, 1));
        CHECK.yes("repeat zeros", x.repeat(which, 0, 2));
        CHECK.yes("repeat up to N", x.repeat(which, 9, 3));
        row("repeated", x, which, 7, 7, 32767, 0, 0, 9, 9, 9);
    }

    /** Promise 6: "(0 or more)": 0 times is granted, also when the row is full. */
    private static void repeatNoTimes(int which) {
        Twins empty = new Twins(CHECK, "empty", () -> new TransformProduct(3));
        Twins some = new Twins(CHECK, "some", () -> with(3, 8, 0));
        Twins full = new Twins(CHECK, "full", () -> Made.full(2));
        for (int digit : new int[] {0, 7, 32767}) {
            empty.grants("repeat " + digit + " no times", x -> x.repeat(which, digit, 0));
            some.grants("repeat " + digit + " no times", x -> x.repeat(which, digit, 0));
            full.grants("repeat " + digit + " no times", x -> x.repeat(which, digit, 0));
        }
    }

    /** Promise 6: "false when these are not such": the digit, however many times. */
    private static void repeatOfNoDigitIsRefused(int which) {
        Twins some = new Twins(CHECK, "some", () -> with(3, 8, 0));
        for (int digit : NO_DIGITS) {
            for (int times : new int[] {0, 1, 6, 7}) {
                some.refuses("repeat " + digit + ", " + times, x -> x.repeat(which, digit, times));
            }
        }
    }

    /** Promise 6: "false when these are not such": the times, in any row. */
    private static void repeatOfNoTimesSuchIsRefused(int which) {
        Twins empty = new Twins(CHECK, "empty", () -> new TransformProduct(3));
        Twins some = new Twins(CHECK, "some", () -> with(3, 8, 0));
        Twins full = new Twins(CHECK, "full", () -> Made.full(2));
        for (int times : new int[] {-1, -2, -8, Integer.MIN_VALUE}) {
            empty.refuses("repeat " + times + " times", x -> x.repeat(which, 1, times));
            some.refuses("repeat " + times + " times", x -> x.repeat(which, 1, times));
            full.refuses("repeat " + times + " times", x -> x.repeat(which, 1, times));
        }
    }

    /** Promise 6: as many as there is room for. */
    private static void repeatUpToN(int which) {
        TransformProduct empty = new TransformProduct(2);
        CHECK.yes("repeat N times", empty.repeat(which, 3, 4));
        row("N digits", empty, which, 3, 3, 3, 3);
        TransformProduct some = with(2, 8, 0);
        CHECK.yes("repeat up to N", some.repeat(which, 3, 2));
        row("N digits", some, which, 8, 0, 3, 3);
        TransformProduct greatest = new TransformProduct(10);
        CHECK.yes("repeat 1024 times", greatest.repeat(which, 32767, 1024));
        greatest.take(which);
        CHECK.same("length() of 1024", greatest.length(), 1024);
        CHECK.same("digit(1023) of 1024", greatest.digit(1023), 32767);
    }

    /** Promise 6: "or there would be more than N": by one, and by so many that an int wraps around. */
    private static void repeatBeyondN(int which) {
        Twins empty = new Twins(CHECK, "empty", () -> new TransformProduct(3));
        Twins some = new Twins(CHECK, "some", () -> with(3, 8, 0));
        Twins full = new Twins(CHECK, "full", () -> Made.full(3));
        int most = Integer.MAX_VALUE;
        for (int times : new int[] {9, 1024, 1 << 16, 1 << 30, most - 9, most - 8, most - 7, most - 1, most}) {
            empty.refuses("repeat " + times + " times", x -> x.repeat(which, 1, times));
            some.refuses("repeat " + times + " times", x -> x.repeat(which, 1, times));
            full.refuses("repeat " + times + " times", x -> x.repeat(which, 1, times));
        }
        some.refuses("repeat 7 times", x -> x.repeat(which, 1, 7));
        some.refuses("repeat 0 7 times", x -> x.repeat(which, 0, 7));
        full.refuses("repeat once", x -> x.repeat(which, 1, 1));
        full.refuses("repeat 0 once", x -> x.repeat(which, 0, 1));
    }

    /** Promise 6: "of A (which = 0) or B (1)". */
    private static void repeatOfNoRowIsRefused() {
        Twins some = new Twins(CHECK, "some", () -> with(3, 8, 0));
        for (int which : new int[] {-1, 2, 3, Integer.MIN_VALUE, Integer.MAX_VALUE}) {
            some.refuses("repeat once in row " + which, x -> x.repeat(which, 5, 1));
            some.refuses("repeat no times in row " + which, x -> x.repeat(which, 5, 0));
        }
    }

    private static void rowsAreApart() {
        TransformProduct x = new TransformProduct(2);
        x.feedA(1);
        x.feedB(2);
        x.repeat(0, 3, 1);
        x.repeat(1, 4, 2);
        row("A", x, 0, 1, 3);
        row("B", x, 1, 2, 4, 4);
        TransformProduct y = new TransformProduct(2);
        y.repeat(0, 1, 4);
        CHECK.yes("a full A leaves B its room", y.feedB(1));
        CHECK.yes("a full A leaves B its room", y.repeat(1, 1, 3));
    }
}
