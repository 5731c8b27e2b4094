import java.util.Random;

/** All promises: long runs of calls, each answer compared with the model's. */
public final class RunsTest {
    private static final int CALLS = 260;
    private static final int RUNS_PER_LOG = 20;
    private static final int[] ODD_NUMBERS = {-1, 2, 3, 32768, 1000000001, Integer.MIN_VALUE, Integer.MAX_VALUE};

    private final Check check;
    private final Random random;
    private final TransformProduct x;
    private final Model model;
    private String name;

    private RunsTest(Check check, int log, int seed) {
        this.check = check;
        random = new Random(seed);
        x = new TransformProduct(log);
        model = new Model(log);
        name = "";
    }

    public static void main(String[] args) {
        Check check = new Check();
        for (int log = 0; log <= 11; log++) {
            for (int seed = 0; seed < RUNS_PER_LOG; seed++) {
                new RunsTest(check, log, seed).run("log " + log + " seed " + seed);
            }
        }
        check.ended();
    }

    private void run(String run) {
        for (int call = 0; call < CALLS; call++) {
            name = run + " call " + call + " ";
            step(random.nextInt(100));
        }
        wholeState(run + " at the end ");
    }

    private void wholeState(String end) {
        check.product(end, x, model.productDigits());
        for (int which = 0; which < 2; which++) {
            check.yes(end + "take(" + which + ")", x.take(which) && model.take(which));
            check.product(end + "row " + which, x, model.productDigits());
        }
    }

    private void step(int kind) {
        if (kind < 40) {
            feeding(kind);
        } else if (kind < 62) {
            making(kind);
        } else {
            reading(kind);
        }
    }

    private void feeding(int kind) {
        int digit = some(random.nextInt(4) == 0 ? 32767 : random.nextInt(4) == 0 ? 0 : random.nextInt(32768));
        int which = some(random.nextInt(2));
        int times = some(random.nextInt(model.size / 2 + 2));
        if (kind < 10) {
            same("feedA", x.feedA(digit), model.repeat(0, digit, 1));
        } else if (kind < 20) {
            same("feedB", x.feedB(digit), model.repeat(1, digit, 1));
        } else {
            same("repeat", x.repeat(which, digit, times), model.repeat(which, digit, times));
        }
    }

    private void making(int kind) {
        int which = some(random.nextInt(2));
        if (kind < 42) {
            same("init", x.init(), model.init());
        } else if (kind < 44) {
            x.clear();
            model.clear();
        } else if (kind < 50) {
            same("multiply", x.multiply(), model.multiply());
        } else if (kind < 54) {
            same("square", x.square(), model.square());
        } else if (kind < 58) {
            same("take", x.take(which), model.take(which));
        } else {
            same("give", x.give(which), model.give(which));
        }
    }

    private void reading(int kind) {
        int m = some(1 + random.nextInt(1000000000));
        int i = some(random.nextInt(model.size));
        int which = some(random.nextInt(2));
        int prime = some(random.nextInt(3));
        if (kind < 68) {
            check.same(name + "length", x.length(), model.length());
        } else if (kind < 78) {
            check.same(name + "digit", x.digit(i), model.digit(i));
        } else if (kind < 83) {
            check.same(name + "butterflies", x.butterflies(), model.butterflies());
        } else if (kind < 85) {
            check.same(name + "spectrum", x.spectrum(which, prime, i), model.spectrum(which, prime, i));
        } else if (kind < 92) {
            check.same(name + "compare", x.compare(), model.compare());
        } else {
            check.same(name + "rest", x.rest(m), model.rest(m));
        }
    }

    /** Now and then a number that is likely to be refused. */
    private int some(int usual) {
        return random.nextInt(20) == 0 ? ODD_NUMBERS[random.nextInt(ODD_NUMBERS.length)] : usual;
    }

    private void same(String call, boolean got, boolean due) {
        check.same(name + call, got ? 1 : 0, due ? 1 : 0);
    }
}
