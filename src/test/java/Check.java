/** Counts and prints the answers that are not as due; a test ends with ended(). */
final class Check {
    private int wrong = 0;

    void same(String call, long got, long due) {
        if (got != due) {
            wrong++;
            System.out.println(call + " answered " + got + ", due is " + due);
        }
    }

    void yes(String call, boolean got) {
        same(call, got ? 1 : 0, 1);
    }

    void no(String call, boolean got) {
        same(call, got ? 1 : 0, 0);
    }

    /** The whole product, through length() and digit(). */
    void product(String name, TransformProduct x, int... digits) {
        same(name + " length()", x.length(), digits.length);
        for (int i = 0; i < digits.length; i++) {
            same(name + " digit(" + i + ")", x.digit(i), digits[i]);
        }
        same(name + " digit(" + digits.length + ")", x.digit(digits.length), TransformProduct.NONE);
    }

    void ended() {
        System.out.println(wrong == 0 ? "all answers are as due" : wrong + " answers are not as due");
        if (wrong != 0) {
            System.exit(1);
        }
    }
}
