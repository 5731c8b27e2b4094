import java.math.BigInteger;

/** 'What it is' and 'Terms', sentence by sentence; refused calls stand in RefusalTest. */
public final class TermsTest {
    private static final Check CHECK = new Check();
    private static final int[] PRIMES = {998244353, 167772161, 469762049};

    public static void main(String[] args) {
        lastCallOf512();
        digitsFromLeastToGreatest();
        lowestDigitFirst();
        for (int log = 1; log <= 10; log++) {
            rowsOfNDigits(log, 32767);
            rowsOfNDigits(log, 0);
            productOfNDigits(log);
            spectrumOfOneAtTheTop(log);
            butterfliesOf(log);
        }
        productWithoutZerosAtItsEnd();
        productForZeroHasNoDigits();
        spectrumBelowZeroWrapsAround();
        CHECK.ended();
    }

    /** "An object is used for at most 512 calls": the 512th still answers as due. */
    private static void lastCallOf512() {
        TransformProduct x = new TransformProduct(10);
        x.init();
        x.repeat(0, 32767, 512);
        x.repeat(1, 1, 512);
        for (int before = 3; before < 507; before += 4) {
            CHECK.yes("multiply() as call " + (before + 1), x.multiply());
            CHECK.same("digit(511) as call " + (before + 2), x.digit(511), 32766);
            CHECK.yes("square() as call " + (before + 3), x.square());
            CHECK.same("digit(511) as call " + (before + 4), x.digit(511), 0);
        }
        CHECK.yes("multiply() as call 508", x.multiply());
        CHECK.same("length() as call 509", x.length(), 1024);
        CHECK.same("butterflies() as call 510", x.butterflies(), 46080);
        CHECK.same("compare() as call 511", x.compare(), 1);
        CHECK.same("digit(0) as call 512", x.digit(0), 32767);
    }

    /** "DIGITS are 0 .. 32767". */
    private static void digitsFromLeastToGreatest() {
        int[] digits = {0, 1, 32766, 32767};
        for (int digit : digits) {
            TransformProduct x = new TransformProduct(2);
            CHECK.yes("feedA(" + digit + ")", x.feedA(digit));
            CHECK.yes("feedB(" + digit + ")", x.feedB(digit));
            CHECK.yes("repeat(0, " + digit + ", 1)", x.repeat(0, digit, 1));
            CHECK.yes("repeat(1, " + digit + ", 1)", x.repeat(1, digit, 1));
            x.feedA(1);
            x.take(0);
            CHECK.product("A of digits " + digit, x, digit, digit, 1);
        }
        for (int digit : new int[] {-1, 32768}) {
            TransformProduct x = new TransformProduct(2);
            CHECK.no("feedA(" + digit + ")", x.feedA(digit));
            CHECK.no("feedB(" + digit + ")", x.feedB(digit));
            CHECK.no("repeat(0, " + digit + ", 1)", x.repeat(0, digit, 1));
            CHECK.no("repeat(1, " + digit + ", 1)", x.repeat(1, digit, 1));
        }
    }

    /** "to the base 32768, the lowest first". */
    private static void lowestDigitFirst() {
        TransformProduct x = Made.unready(2, Made.row(32767, 1), Made.row(1, 32767));
        CHECK.same("compare() of 65535 and 1073709057", x.compare(), -1);
        x.take(0);
        CHECK.same("32767 + 32768 by 1000000000", x.rest(1000000000), 65535);
        x.take(1);
        CHECK.same("1 + 32767 * 32768 by 1000000000", x.rest(1000000000), 73709057);
    }

    /** "rows A and B, of N digits at most each (zeros at the end count)". */
    private static void rowsOfNDigits(int log, int digit) {
        int size = 1 << log;
        for (int which = 0; which < 2; which++) {
            int row = which;
            Twins full = new Twins(CHECK, size + " digits " + digit + " in row " + which, () -> {
                TransformProduct x = new TransformProduct(log);
                CHECK.yes("repeat up to N", x.repeat(row, digit, size));
                return x;
            });
            full.refuses("one digit more", x -> row == 0 ? x.feedA(0) : x.feedB(0));
            full.refuses("one digit more", x -> row == 0 ? x.feedA(1) : x.feedB(1));
            full.refuses("one repeated digit more", x -> x.repeat(row, 0, 1));
        }
    }

    /** A product of N digits is full; one of N - 1 digits is all but full. */
    private static void productOfNDigits(int log) {
        int half = 1 << (log - 1);
        TransformProduct x = new TransformProduct(log);
        x.init();
        x.repeat(0, 32767, half);
        x.repeat(1, 32767, half);
        CHECK.yes("multiply() into N digits", x.multiply());
        CHECK.same("length() of N", x.length(), 2 * half);
        x.clear();
        x.repeat(0, 0, half - 1);
        x.feedA(1);
        x.repeat(1, 0, half - 1);
        x.feedB(1);
        CHECK.yes("multiply() into N - 1 digits", x.multiply());
        CHECK.same("length() of N - 1", x.length(), 2 * half - 1);
        CHECK.same("digit(N - 2)", x.digit(2 * half - 2), 1);
        CHECK.same("digit(N - 1)", x.digit(2 * half - 1), -1);
    }

    /** "a PRODUCT, without zeros at its end": whichever call makes it. */
    private static void productWithoutZerosAtItsEnd() {
        TransformProduct x = Made.multiplied(3, Made.row(0, 3, 0, 0), Made.row(0, 5, 0));
        CHECK.product("multiply() of rows with zeros", x, 0, 0, 15);
        x.square();
        CHECK.product("square() of a row with zeros", x, 0, 0, 9);
        x.take(0);
        CHECK.product("take(0) of a row with zeros", x, 0, 3);
        x.take(1);
        CHECK.product("take(1) of a row with zeros", x, 0, 5);
    }

    /** "(none of digits for 0)": whichever call makes it. */
    private static void productForZeroHasNoDigits() {
        int[][] zeros = {Made.row(), Made.row(0), Made.row(0, 0)};
        for (int[] zero : zeros) {
            TransformProduct x = Made.ready(2, zero, Made.row(9, 9));
            x.take(1);
            x.multiply();
            CHECK.product("multiply() of " + zero.length + " zeros", x);
            x.take(1);
            x.square();
            CHECK.product("square() of " + zero.length + " zeros", x);
            x.take(1);
            x.take(0);
            CHECK.product("take(0) of " + zero.length + " zeros", x);
        }
    }

    /** "the j-th times W to the power of i * j": up to (N - 1) * (N - 1). */
    private static void spectrumOfOneAtTheTop(int log) {
        int size = 1 << log;
        TransformProduct x = new TransformProduct(log);
        x.init();
        x.repeat(1, 0, size - 1);
        x.feedB(1);
        for (int prime = 0; prime < 3; prime++) {
            BigInteger p = BigInteger.valueOf(PRIMES[prime]);
            BigInteger w = BigInteger.valueOf(3).modPow(BigInteger.valueOf((PRIMES[prime] - 1) / size), p);
            for (int i : new int[] {0, 1, size / 2, size - 1}) {
                BigInteger due = w.modPow(BigInteger.valueOf((long) i * (size - 1)), p);
                CHECK.same("spectrum(1, " + prime + ", " + i + ") of " + size,
                        x.spectrum(1, prime, i), due.longValueExact());
            }
        }
    }

    /** "what the sum ... leaves by the prime": W to the N / 2 is -1, and nothing is below 0. */
    private static void spectrumBelowZeroWrapsAround() {
        for (int prime = 0; prime < 3; prime++) {
            TransformProduct x = Made.ready(1, Made.row(0, 1), Made.row(1, 32767));
            CHECK.same("0 - 1 by prime " + prime, x.spectrum(0, prime, 1), PRIMES[prime] - 1);
            CHECK.same("1 - 32767 by prime " + prime, x.spectrum(1, prime, 1), PRIMES[prime] - 32766);
            x.clear();
            x.repeat(0, 5, 2);
            CHECK.same("5 - 5 by prime " + prime, x.spectrum(0, prime, 1), 0);
        }
    }

    /** "A transform of N numbers takes N / 2 * LOG butterflies; ... nine ..., ... six". */
    private static void butterfliesOf(int log) {
        int[] ofTransforms = {1, 4, 12, 32, 80, 192, 448, 1024, 2304, 5120};
        TransformProduct x = new TransformProduct(log);
        x.init();
        x.multiply();
        CHECK.same("butterflies() of a product, log " + log, x.butterflies(), 9 * ofTransforms[log - 1]);
        x.square();
        CHECK.same("butterflies() of a square, log " + log, x.butterflies(), 6 * ofTransforms[log - 1]);
    }
}
