/** Counts and prints the answers that are not as due; a test ends with ended(). */
final class Check {
    private static final int SOME = 20;
    private static final int[] DIVISORS = {1000000000, 999999999, 999999937, 998244353};

    private int wrong = 0;

    void same(String call, long got, long due) {
        if (got != due) {
            wrong++;
            System.out.println(call + " answered " + got + ", due is " + due);
        }
    }

    void yes(String call, boolean got) {
        same(call, got ? 1 : 0, 1);
    }

    void no(String call, boolean got) {
        same(call, got ? 1 : 0, 0);
    }

    void text(String call, String got, String due) {
        if (!got.equals(due)) {
            wrong++;
            System.out.println(call + " is" + System.lineSeparator() + "  " + got
                    + System.lineSeparator() + "due is" + System.lineSeparator() + "  " + due);
        }
    }

    /**
     * The whole product, through length(), digit() and rest(): at most 80 calls, since
     * nothing is promised of an object after its 512th. Of a long product some digits are
     * read; that the others are right, the rests tell.
     */
    void product(String name, TransformProduct x, int... digits) {
        int count = digits.length;
        same(name + " length()", x.length(), count);
        same(name + " digit(" + count + ")", x.digit(count), TransformProduct.NONE);
        int step = count <= 3 * SOME ? 1 : count / SOME;
        for (int i = 0; i < count; i += i < SOME || i >= count - SOME ? 1 : step) {
            same(name + " digit(" + i + ")", x.digit(i), digits[i]);
        }
        for (int m : DIVISORS) {
            same(name + " rest(" + m + ")", x.rest(m), rest(digits, m));
        }
    }

    private static long rest(int[] digits, int m) {
        long left = 0;
        for (int i = digits.length - 1; i >= 0; i--) {
            left = (left * 32768 + digits[i]) % m;
        }
        return left;
    }

    void ended() {
        System.out.println(wrong == 0 ? "all answers are as due" : wrong + " answers are not as due");
        if (wrong != 0) {
            System.exit(1);
        }
    }
}
