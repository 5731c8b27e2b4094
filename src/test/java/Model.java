import java.math.BigInteger;
import java.util.ArrayList;
import java.util.List;

/** The document told again with BigInteger and without transforms, to compare with. */
final class Model {
    static final long[] PRIMES = {998244353L, 167772161L, 469762049L};
    static final int NONE = -1;

    final int log;
    final int size;
    final List<List<Integer>> rows = List.of(new ArrayList<>(), new ArrayList<>());
    private List<Integer> product = new ArrayList<>();
    private boolean ready = false;
    private int butterflies = 0;

    Model(int log) {
        this.log = log < 1 || log > 10 ? 1 : log;
        this.size = 1 << this.log;
    }

    boolean init() {
        boolean was = ready;
        ready = true;
        return !was;
    }

    void clear() {
        rows.get(0).clear();
        rows.get(1).clear();
        product.clear();
        butterflies = 0;
    }

    boolean repeat(int which, int digit, int times) {
        if (which < 0 || which > 1 || digit < 0 || digit > 32767 || times < 0) {
            return false;
        }
        if ((long) rows.get(which).size() + times > size) {
            return false;
        }
        for (int i = 0; i < times; i++) {
            rows.get(which).add(digit);
        }
        return true;
    }

    boolean multiply() {
        return timesA(rows.get(1), 9);
    }

    boolean square() {
        return timesA(rows.get(0), 6);
    }

    private boolean timesA(List<Integer> other, int transforms) {
        if (!ready || rows.get(0).size() + other.size() > size) {
            return false;
        }
        product = digitsOf(number(rows.get(0)).multiply(number(other)));
        butterflies = transforms * (size / 2) * log;
        return true;
    }

    int length() {
        return product.size();
    }

    int digit(int i) {
        return i < 0 || i >= product.size() ? NONE : product.get(i);
    }

    int[] productDigits() {
        return product.stream().mapToInt(Integer::intValue).toArray();
    }

    int butterflies() {
        return butterflies;
    }

    int spectrum(int which, int prime, int i) {
        if (!ready || which < 0 || which > 1 || prime < 0 || prime > 2 || i < 0 || i >= size) {
            return NONE;
        }
        BigInteger p = BigInteger.valueOf(PRIMES[prime]);
        BigInteger w = BigInteger.valueOf(3).modPow(BigInteger.valueOf((PRIMES[prime] - 1) / size), p);
        BigInteger sum = BigInteger.ZERO;
        for (int j = 0; j < rows.get(which).size(); j++) {
            BigInteger turn = w.modPow(BigInteger.valueOf((long) i * j), p);
            sum = sum.add(turn.multiply(BigInteger.valueOf(rows.get(which).get(j))));
        }
        return sum.mod(p).intValueExact();
    }

    boolean take(int which) {
        if (which < 0 || which > 1) {
            return false;
        }
        product = digitsOf(number(rows.get(which)));
        return true;
    }

    boolean give(int which) {
        if (which < 0 || which > 1) {
            return false;
        }
        rows.get(which).clear();
        rows.get(which).addAll(product);
        return true;
    }

    int compare() {
        return number(rows.get(0)).compareTo(number(rows.get(1)));
    }

    int rest(int m) {
        return m < 1 || m > 1000000000 ? NONE : number(product).mod(BigInteger.valueOf(m)).intValueExact();
    }

    static BigInteger number(List<Integer> digits) {
        BigInteger sum = BigInteger.ZERO;
        for (int i = digits.size() - 1; i >= 0; i--) {
            sum = sum.shiftLeft(15).add(BigInteger.valueOf(digits.get(i)));
        }
        return sum;
    }

    static List<Integer> digitsOf(BigInteger number) {
        List<Integer> digits = new ArrayList<>();
        BigInteger base = BigInteger.valueOf(32768);
        for (BigInteger left = number; left.signum() != 0; left = left.shiftRight(15)) {
            digits.add(left.mod(base).intValueExact());
        }
        return digits;
    }
}
