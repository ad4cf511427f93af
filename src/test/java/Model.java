import java.math.BigInteger;
import java.util.ArrayList;
import java.util.List;

/** The document in the words of BigInteger: what a WideCounts is held against. */
final class Model {
    static final BigInteger TOO_WIDE = BigInteger.ONE.shiftLeft(1600);

    final List<BigInteger> numbers = new ArrayList<>();
    private final long[][] table = new long[12][12];

    private BigInteger known(int handle) {
        if (handle < 0 || handle >= numbers.size()) {
            throw new ArrayIndexOutOfBoundsException("handle");
        }
        return numbers.get(handle);
    }

    private int keep(BigInteger number) {
        if (numbers.size() == 160 || number.abs().compareTo(TOO_WIDE) >= 0) {
            return -1;
        }
        numbers.add(number);
        return numbers.size() - 1;
    }

    int value(long v) {
        return keep(BigInteger.valueOf(v));
    }

    int add(int a, int b) {
        return keep(known(a).add(known(b)));
    }

    int times(int a, int b) {
        return keep(known(a).multiply(known(b)));
    }

    int over(int a, int b) {
        BigInteger first = known(a);
        if (known(b).signum() == 0) {
            throw new ArithmeticException("by 0");
        }
        return keep(first.divide(known(b)));
    }

    int power(int a, int n) {
        BigInteger base = known(a);
        if (n < 0 || n > 1_000_000) {
            return -1;
        }
        if (base.abs().bitLength() > 1) {
            return n > 1600 ? -1 : keep(base.pow(n));
        }
        return keep(n == 0 ? BigInteger.ONE : n % 2 == 0 ? base.abs() : base);
    }

    int binomial(int n, int k) {
        if (n < 0 || n > 4000) {
            return -1;
        }
        if (k < 0 || k > n) {
            return keep(BigInteger.ZERO);
        }
        return keep(product(n - k + 1, n).divide(product(1, k)));
    }

    int factorial(int n) {
        return n < 0 || n > 2000 ? -1 : keep(product(1, n));
    }

    static BigInteger product(int from, int to) {
        BigInteger product = BigInteger.ONE;
        for (int i = from; i <= to; i++) {
            product = product.multiply(BigInteger.valueOf(i));
        }
        return product;
    }

    int order(int a, int b) {
        return known(a).compareTo(known(b));
    }

    int digit(int a, int i) {
        String digits = known(a).abs().toString();
        if (i < 0 || i >= digits.length()) {
            throw new ArrayIndexOutOfBoundsException("digit");
        }
        return digits.charAt(digits.length() - 1 - i) - '0';
    }

    boolean entry(int i, int j, long v) {
        if (i < 0 || i > 11 || j < 0 || j > 11) {
            return false;
        }
        table[i][j] = v;
        return true;
    }

    int determinant(int size) {
        return size < 0 || size > 12 ? -1 : keep(determinantOf(table, size));
    }

    /** By columns sets of growing size (no division at all): unlike the way of the class. */
    static BigInteger determinantOf(long[][] table, int size) {
        BigInteger[] minors = new BigInteger[1 << size];
        minors[0] = BigInteger.ONE;
        for (int set = 1; set < minors.length; set++) {
            int row = Integer.bitCount(set) - 1;
            BigInteger sum = BigInteger.ZERO;
            boolean minus = row % 2 == 1;
            for (int column = 0; column < size; column++) {
                if ((set >> column & 1) == 0) {
                    continue;
                }
                BigInteger part = minors[set ^ 1 << column].multiply(BigInteger.valueOf(table[row][column]));
                sum = minus ? sum.subtract(part) : sum.add(part);
                minus = !minus;
            }
            minors[set] = sum;
        }
        return minors[minors.length - 1];
    }

    long residue(int a, long modulus) {
        BigInteger number = known(a);
        if (modulus == 0) {
            throw new ArithmeticException("by 0");
        }
        return number.mod(BigInteger.valueOf(modulus).abs()).longValueExact();
    }

    int kept() {
        return numbers.size();
    }
}
