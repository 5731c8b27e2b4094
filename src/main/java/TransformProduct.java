import java.util.Arrays;

/**
 * Products of long whole numbers by transforms over three primes. Every row is made
 * in a constructor and used again, so that no call makes an object.
 */
public final class TransformProduct {
    public static final int NONE = -1;

    private static final int DIGIT_BITS = 15;
    private static final int BASE = 1 << DIGIT_BITS;
    private static final int LEAST_LOG = 1;
    private static final int GREATEST_LOG = 10;
    private static final int LEAST_DIVISOR = 1;
    private static final int GREATEST_DIVISOR = 1000000000;
    private static final int GENERATOR = 3;
    private static final int EXPONENT_BITS = 31;
    private static final int[] PRIMES = {998244353, 167772161, 469762049};
    private static final int PRODUCT_TRANSFORMS = 9;
    private static final int SQUARE_TRANSFORMS = 6;

    private final int size;
    private final int transformButterflies;
    private final Row rowA;
    private final Row rowB;
    private final Row product;
    private final PrimeTransform[] transforms;
    private final Joiner joiner;
    private final int[] scratch;
    private boolean ready;
    private int latestButterflies;

    public TransformProduct(int log) {
        int usedLog = log >= LEAST_LOG && log <= GREATEST_LOG ? log : LEAST_LOG;
        size = 1 << usedLog;
        transformButterflies = size / 2 * usedLog;
        rowA = new Row(size);
        rowB = new Row(size);
        product = new Row(size);
        transforms = new PrimeTransform[PRIMES.length];
        for (int k = 0; k < PRIMES.length; k++) {
            transforms[k] = new PrimeTransform(PRIMES[k], usedLog);
        }
        joiner = new Joiner();
        scratch = new int[size];
        ready = false;
        latestButterflies = 0;
    }

    public boolean init() {
        if (ready) {
            return false;
        }
        for (int k = 0; k < transforms.length; k++) {
            transforms[k].prepare();
        }
        joiner.prepare();
        ready = true;
        return true;
    }

    public void clear() {
        rowA.empty();
        rowB.empty();
        product.empty();
        latestButterflies = 0;
    }

    public boolean feedA(int digit) {
        return rowA.append(digit, 1);
    }

    public boolean feedB(int digit) {
        return rowB.append(digit, 1);
    }

    public boolean repeat(int which, int digit, int times) {
        return isRow(which) && rowOf(which).append(digit, times);
    }

    public boolean multiply() {
        int digits = rowA.count() + rowB.count();
        if (!ready || digits > size) {
            return false;
        }
        for (int k = 0; k < transforms.length; k++) {
            transforms[k].convolve(rowA, rowB, scratch);
        }
        carryInto(digits);
        latestButterflies = PRODUCT_TRANSFORMS * transformButterflies;
        return true;
    }

    public boolean square() {
        int digits = 2 * rowA.count();
        if (!ready || digits > size) {
            return false;
        }
        for (int k = 0; k < transforms.length; k++) {
            transforms[k].convolveWithItself(rowA);
        }
        carryInto(digits);
        latestButterflies = SQUARE_TRANSFORMS * transformButterflies;
        return true;
    }

    public int length() {
        return product.count();
    }

    public int digit(int i) {
        return i >= 0 && i < product.count() ? product.at(i) : NONE;
    }

    public int butterflies() {
        return latestButterflies;
    }

    public int spectrum(int which, int prime, int i) {
        if (!ready || !isRow(which)) {
            return NONE;
        }
        if (prime < 0 || prime >= transforms.length || i < 0 || i >= size) {
            return NONE;
        }
        return transforms[prime].spectrumNumber(rowOf(which), i);
    }

    public boolean take(int which) {
        if (!isRow(which)) {
            return false;
        }
        product.copyFrom(rowOf(which));
        product.trim();
        return true;
    }

    public boolean give(int which) {
        if (!isRow(which)) {
            return false;
        }
        rowOf(which).copyFrom(product);
        return true;
    }

    public int compare() {
        return rowA.comparedTo(rowB);
    }

    public int rest(int m) {
        if (m < LEAST_DIVISOR || m > GREATEST_DIVISOR) {
            return NONE;
        }
        return product.remainder(m);
    }

    private static boolean isRow(int which) {
        return which == 0 || which == 1;
    }

    private Row rowOf(int which) {
        return which == 0 ? rowA : rowB;
    }

    /**
     * The two factors' digits together bound the product's: the coefficient at the last
     * place is 0 and leaves room for the carry, so none is left over.
     */
    private void carryInto(int digits) {
        product.empty();
        long carry = 0;
        for (int i = 0; i < digits; i++) {
            carry += joiner.join(transforms[0].coefficient(i),
                    transforms[1].coefficient(i), transforms[2].coefficient(i));
            product.append((int) (carry & (BASE - 1)), 1);
            carry >>= DIGIT_BITS;
        }
        product.trim();
    }

    private static long power(long base, long exponent, long prime) {
        long answer = 1;
        long factor = base % prime;
        for (int bit = 0; bit < EXPONENT_BITS; bit++) {
            if ((exponent >> bit & 1) == 1) {
                answer = answer * factor % prime;
            }
            factor = factor * factor % prime;
        }
        return answer;
    }

    private static long inverse(long number, long prime) {
        return power(number, prime - 2, prime);
    }

    /** Digits to the base 32768, the lowest first. */
    private static final class Row {
        private final int[] cells;
        private int used;

        Row(int capacity) {
            cells = new int[capacity];
            used = 0;
        }

        int count() {
            return used;
        }

        int at(int i) {
            return cells[i];
        }

        void empty() {
            used = 0;
        }

        boolean append(int value, int times) {
            // The room is told by subtraction: used + times could wrap around.
            if (value < 0 || value >= BASE || times < 0 || times > cells.length - used) {
                return false;
            }
            Arrays.fill(cells, used, used + times, value);
            used += times;
            return true;
        }

        void copyFrom(Row other) {
            System.arraycopy(other.cells, 0, cells, 0, other.used);
            used = other.used;
        }

        void trim() {
            used = significant();
        }

        int significant() {
            for (int i = used; i > 0; i--) {
                if (cells[i - 1] != 0) {
                    return i;
                }
            }
            return 0;
        }

        int comparedTo(Row other) {
            int mine = significant();
            int theirs = other.significant();
            if (mine != theirs) {
                return mine < theirs ? -1 : 1;
            }
            for (int i = mine - 1; i >= 0; i--) {
                if (cells[i] != other.cells[i]) {
                    return cells[i] < other.cells[i] ? -1 : 1;
                }
            }
            return 0;
        }

        int remainder(int divisor) {
            long left = 0;
            for (int i = used - 1; i >= 0; i--) {
                left = (left * BASE + cells[i]) % divisor;
            }
            return (int) left;
        }

        void spreadInto(int[] target) {
            System.arraycopy(cells, 0, target, 0, used);
            Arrays.fill(target, used, target.length, 0);
        }
    }

    /** Transforms by one prime, and the latest convolution that they made. */
    private static final class PrimeTransform {
        private final int prime;
        private final int log;
        private final int size;
        private final int[] roots;
        private final int[] values;
        private long inverseSize;

        PrimeTransform(int prime, int log) {
            this.prime = prime;
            this.log = log;
            size = 1 << log;
            roots = new int[size / 2];
            values = new int[size];
            inverseSize = 0;
        }

        /** The powers of W up to half of N; the other half are these, taken negative. */
        void prepare() {
            long w = power(GENERATOR, (prime - 1) / size, prime);
            long root = 1;
            for (int i = 0; i < roots.length; i++) {
                roots[i] = (int) root;
                root = root * w % prime;
            }
            inverseSize = inverse(size, prime);
        }

        void convolve(Row x, Row y, int[] scratch) {
            x.spreadInto(values);
            toSpectrum(values);
            y.spreadInto(scratch);
            toSpectrum(scratch);
            multiplyEach(scratch);
            fromSpectrum(values);
        }

        void convolveWithItself(Row x) {
            x.spreadInto(values);
            toSpectrum(values);
            multiplyEach(values);
            fromSpectrum(values);
        }

        /**
         * Number i of the latest convolution. fromSpectrum uses W and not its inverse,
         * which leaves the numbers in the reverse order and N times too great.
         */
        int coefficient(int i) {
            return (int) (values[(size - i) & (size - 1)] * inverseSize % prime);
        }

        /** By Horner's rule: one number alone is cheaper so than by a whole transform. */
        int spectrumNumber(Row row, int i) {
            long point = i < roots.length ? roots[i] : prime - roots[i - roots.length];
            long sum = 0;
            for (int j = row.count() - 1; j >= 0; j--) {
                sum = (sum * point + row.at(j)) % prime;
            }
            return (int) sum;
        }

        private void multiplyEach(int[] others) {
            for (int i = 0; i < size; i++) {
                values[i] = (int) ((long) values[i] * others[i] % prime);
            }
        }

        /** Leaves the spectrum in bit-reversed order, which fromSpectrum starts from. */
        private void toSpectrum(int[] row) {
            for (int stage = 0; stage < log; stage++) {
                for (int block = 0; block < 1 << stage; block++) {
                    splitBlock(row, block, stage);
                }
            }
        }

        private void fromSpectrum(int[] row) {
            for (int stage = log - 1; stage >= 0; stage--) {
                for (int block = 0; block < 1 << stage; block++) {
                    joinBlock(row, block, stage);
                }
            }
        }

        private void splitBlock(int[] row, int block, int stage) {
            int half = size >> (stage + 1);
            int start = 2 * half * block;
            for (int j = 0; j < half; j++) {
                int low = row[start + j];
                int high = row[start + j + half];
                int sum = low + high;
                row[start + j] = sum >= prime ? sum - prime : sum;
                long difference = low - high + prime;
                row[start + j + half] = (int) (difference * roots[j << stage] % prime);
            }
        }

        private void joinBlock(int[] row, int block, int stage) {
            int half = size >> (stage + 1);
            int start = 2 * half * block;
            for (int j = 0; j < half; j++) {
                int low = row[start + j];
                int high = (int) ((long) row[start + j + half] * roots[j << stage] % prime);
                int sum = low + high;
                row[start + j] = sum >= prime ? sum - prime : sum;
                int difference = low - high;
                row[start + j + half] = difference < 0 ? difference + prime : difference;
            }
        }
    }

    /** Finds a number from what it leaves by each of the three primes. */
    private static final class Joiner {
        private long firstInverse;
        private long bothInverse;

        Joiner() {
            firstInverse = 0;
            bothInverse = 0;
        }

        void prepare() {
            firstInverse = inverse(PRIMES[0], PRIMES[1]);
            bothInverse = inverse((long) PRIMES[0] * PRIMES[1], PRIMES[2]);
        }

        /** A coefficient is below N times the base squared, so the sum fits a long. */
        long join(long first, long second, long third) {
            long both = (long) PRIMES[0] * PRIMES[1];
            long byTwo = first + PRIMES[0]
                    * (Math.floorMod(second - first, (long) PRIMES[1]) * firstInverse % PRIMES[1]);
            long upper = Math.floorMod(third - byTwo, (long) PRIMES[2]) * bothInverse % PRIMES[2];
            return byTwo + both * upper;
        }
    }
}
