/** Objects in the states that the tests start from. */
final class Made {
    private Made() {
    }

    static int[] row(int... digits) {
        return digits;
    }

    static TransformProduct unready(int log, int[] a, int[] b) {
        TransformProduct x = new TransformProduct(log);
        for (int digit : a) {
            x.feedA(digit);
        }
        for (int digit : b) {
            x.feedB(digit);
        }
        return x;
    }

    static TransformProduct ready(int log, int[] a, int[] b) {
        TransformProduct x = unready(log, a, b);
        x.init();
        return x;
    }

    static TransformProduct multiplied(int log, int[] a, int[] b) {
        TransformProduct x = ready(log, a, b);
        x.multiply();
        return x;
    }

    /** Rows A and B full of the greatest digit, and a product of an earlier multiply(). */
    static TransformProduct full(int log) {
        int half = 1 << (log - 1);
        TransformProduct x = new TransformProduct(log);
        x.init();
        for (int which = 0; which < 2; which++) {
            x.repeat(which, 32767, half);
        }
        x.multiply();
        for (int which = 0; which < 2; which++) {
            x.repeat(which, 32767, half);
        }
        return x;
    }
}
