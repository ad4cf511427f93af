import java.math.BigInteger;

/** Each sentence of the promises that make numbers (2 to 8, and 12) that names a boundary case has a test of its own here. */
public final class MakingBoundariesTest {
    private static final Tally TALLY = new Tally("MakingBoundariesTest");
    private static final BigInteger WIDEST = Made.WIDEST;
    private static final int LEAST_INT = Integer.MIN_VALUE;
    private static final int GREATEST_INT = Integer.MAX_VALUE;

    public static void main(String[] args) {
        TALLY.sentence("2: The number v", MakingBoundariesTest::theNumber);
        TALLY.sentence("3: The sum of two", MakingBoundariesTest::sum);
        TALLY.sentence("3: The sum of two, up to the width", MakingBoundariesTest::sumAtTheWidth);
        TALLY.sentence("3: ArrayIndexOutOfBoundsException: a or b is not KNOWN", MakingBoundariesTest::sumOfUnknown);
        TALLY.sentence("4: The product of two", MakingBoundariesTest::product);
        TALLY.sentence("4: The product of two, up to the width", MakingBoundariesTest::productAtTheWidth);
        TALLY.sentence("4: ArrayIndexOutOfBoundsException: a or b is not KNOWN", MakingBoundariesTest::productOfUnknown);
        TALLY.sentence("5: what is behind the point left out (towards 0)", MakingBoundariesTest::quotientTowardsNought);
        TALLY.sentence("5: The quotient a / b, at the width", MakingBoundariesTest::quotientAtTheWidth);
        TALLY.sentence("5: ArrayIndexOutOfBoundsException: a or b is not KNOWN", MakingBoundariesTest::quotientOfUnknown);
        TALLY.sentence("5: ArithmeticException: the second one is 0", MakingBoundariesTest::quotientByNought);
        TALLY.sentence("6: a to the n-th power, up to the width", MakingBoundariesTest::powerAtTheWidth);
        TALLY.sentence("6: (1, when n is 0)", MakingBoundariesTest::powerNought);
        TALLY.sentence("6: ArrayIndexOutOfBoundsException: a is not KNOWN", MakingBoundariesTest::powerOfUnknown);
        TALLY.sentence("6: -1 also when n is not 0 .. 1,000,000", MakingBoundariesTest::powerOutside);
        TALLY.sentence("7: How many ways there are to choose k of n, up to the width", MakingBoundariesTest::waysAtTheWidth);
        TALLY.sentence("7: 0 when k is below 0", MakingBoundariesTest::waysToChooseLessThanNone);
        TALLY.sentence("7: 0 when k is .. above n", MakingBoundariesTest::waysToChooseMoreThanAll);
        TALLY.sentence("7: -1 also when n is not 0 .. 4,000", MakingBoundariesTest::waysOutside);
        TALLY.sentence("8: The product of 1 to n, up to the width", MakingBoundariesTest::factorialAtTheWidth);
        TALLY.sentence("8: (1, when n is 0)", MakingBoundariesTest::factorialOfNought);
        TALLY.sentence("8: -1 also when n is below 0", MakingBoundariesTest::factorialBelowNought);
        TALLY.sentence("12: The determinant of the first so many rows and columns", MakingBoundariesTest::firstRowsAndColumns);
        TALLY.sentence("12: The determinant, of the greatest entries and of none that counts", MakingBoundariesTest::determinantAtItsEnds);
        TALLY.sentence("12: (1, when that is 0)", MakingBoundariesTest::determinantOfNoRows);
        TALLY.sentence("12: -1 also when size is not 0 .. 12", MakingBoundariesTest::determinantOutside);
        TALLY.end();
    }

    private static BigInteger big(long v) {
        return BigInteger.valueOf(v);
    }

    private static BigInteger twoTo(int n) {
        return BigInteger.TWO.pow(n);
    }

    /** What was made is 0 and nothing like it: the same as 0, of one digit, and no divisor. */
    private static void isNought(String what, WideCounts x, int handle) {
        int nought = x.value(0);
        int one = x.value(1);
        TALLY.due(what + " against 0", () -> x.order(handle, nought), 0);
        TALLY.due("0 against " + what, () -> x.order(nought, handle), 0);
        int difference = x.add(x.value(4), x.value(-4));
        TALLY.due(what + " against 4 - 4", () -> x.order(handle, difference), 0);
        TALLY.due("digit 0 of " + what, () -> x.digit(handle, 0), 0);
        TALLY.noSuchIndex("digit 1 of " + what, () -> x.digit(handle, 1));
        TALLY.noSuchQuotient("1 over " + what, () -> x.over(one, handle));
    }

    private static int[] unknownBeside(int kept) {
        return new int[] {-1, kept, kept + 1, 159, 160, LEAST_INT, GREATEST_INT};
    }

    // Promise 2

    private static void theNumber() {
        long[] edges = {0, 1, -1, Integer.MAX_VALUE, Integer.MIN_VALUE, 1L << 32, -(1L << 32), (1L << 62) - 1, Long.MAX_VALUE, Long.MIN_VALUE, Long.MIN_VALUE + 1};
        WideCounts x = new WideCounts();
        for (long v : edges) {
            TALLY.makes("value(" + v + ")", x, () -> x.value(v), big(v));
        }
        WideCounts ends = new WideCounts();
        int least = ends.value(Long.MIN_VALUE);
        int greatest = ends.value(Long.MAX_VALUE);
        TALLY.due("-2^63 against 2^63 - 1", () -> ends.order(least, greatest), -1);
        TALLY.makes("-2^63 and 2^63 - 1", ends, () -> ends.add(least, greatest), big(-1));
        WideCounts nought = new WideCounts();
        isNought("value(0)", nought, nought.value(0));
    }

    // Promise 3

    private static void sum() {
        long[][] pairs = {{0, 0}, {0, -1}, {-1, 0}, {1, -1}, {-1, 1}, {Long.MAX_VALUE, 1}, {Long.MIN_VALUE, -1},
            {Long.MIN_VALUE, Long.MIN_VALUE}, {Long.MAX_VALUE, Long.MIN_VALUE}, {Integer.MAX_VALUE, 1}, {5, -8}, {-5, 8}};
        for (long[] pair : pairs) {
            WideCounts x = new WideCounts();
            x.value(pair[0]);
            x.value(pair[1]);
            TALLY.makes(pair[0] + " + " + pair[1], x, () -> x.add(0, 1), big(pair[0]).add(big(pair[1])));
            TALLY.makes(pair[0] + " and itself", x, () -> x.add(0, 0), big(pair[0]).shiftLeft(1));
        }
        WideCounts x = new WideCounts();
        isNought("-9 + 9", x, x.add(x.value(-9), x.value(9)));
    }

    private static void sumAtTheWidth() {
        WideCounts x = new WideCounts();
        int one = x.value(1);
        int minusOne = x.value(-1);
        int nought = x.value(0);
        int most = Made.widest(x);
        int least = x.times(most, minusOne);
        TALLY.makes("2^1600 - 1 and 0", x, () -> x.add(most, nought), WIDEST);
        TALLY.makesNothing("2^1600 - 1 and 1", x, () -> x.add(most, one));
        TALLY.makesNothing("1 and 2^1600 - 1", x, () -> x.add(one, most));
        TALLY.makes("2^1600 - 1 and -1", x, () -> x.add(most, minusOne), WIDEST.subtract(BigInteger.ONE));
        TALLY.makes("1 - 2^1600 and 0", x, () -> x.add(least, nought), WIDEST.negate());
        TALLY.makesNothing("1 - 2^1600 and -1", x, () -> x.add(least, minusOne));
        TALLY.makesNothing("-1 and 1 - 2^1600", x, () -> x.add(minusOne, least));
        TALLY.makes("1 - 2^1600 and 1", x, () -> x.add(least, one), WIDEST.negate().add(BigInteger.ONE));
        TALLY.makes("the widest and its opposite", x, () -> x.add(most, least), BigInteger.ZERO);
        int half = Made.twoTo(x, 1_599);
        TALLY.makesNothing("2^1599 and 2^1599", x, () -> x.add(half, half));
    }

    private static void sumOfUnknown() {
        WideCounts x = new WideCounts();
        TALLY.noSuchIndex("add(0, 0) of a new object", () -> x.add(0, 0));
        x.value(3);
        for (int unknown : unknownBeside(1)) {
            TALLY.noSuchIndex("add(" + unknown + ", 0)", () -> x.add(unknown, 0));
            TALLY.noSuchIndex("add(0, " + unknown + ")", () -> x.add(0, unknown));
            TALLY.noSuchIndex("add(" + unknown + ", " + unknown + ")", () -> x.add(unknown, unknown));
        }
        TALLY.makes("add(0, 0)", x, () -> x.add(0, 0), big(6));
        TALLY.makes("add(1, 1), which has become known", x, () -> x.add(1, 1), big(12));
    }

    // Promise 4

    private static void product() {
        long[][] pairs = {{0, 0}, {0, -1}, {-1, 0}, {1, -1}, {-1, -1}, {Long.MIN_VALUE, -1}, {-1, Long.MIN_VALUE},
            {Long.MIN_VALUE, Long.MIN_VALUE}, {Long.MAX_VALUE, Long.MIN_VALUE}, {1L << 32, 1L << 32}, {Long.MAX_VALUE, 2}};
        for (long[] pair : pairs) {
            WideCounts x = new WideCounts();
            x.value(pair[0]);
            x.value(pair[1]);
            TALLY.makes(pair[0] + " * " + pair[1], x, () -> x.times(0, 1), big(pair[0]).multiply(big(pair[1])));
            TALLY.makes(pair[0] + " squared", x, () -> x.times(0, 0), big(pair[0]).pow(2));
        }
        WideCounts x = new WideCounts();
        isNought("-9 * 0", x, x.times(x.value(-9), x.value(0)));
        isNought("0 * -9", x, x.times(x.value(0), x.value(-9)));
    }

    private static void productAtTheWidth() {
        WideCounts x = new WideCounts();
        int middle = Made.twoTo(x, 800);
        int below = x.add(middle, x.value(-1));
        int above = x.add(middle, x.value(1));
        int minusAbove = x.times(above, x.value(-1));
        TALLY.makes("(2^800 - 1) * (2^800 + 1)", x, () -> x.times(below, above), WIDEST);
        int most = x.kept() - 1;
        TALLY.makes("(2^800 - 1) * -(2^800 + 1)", x, () -> x.times(below, minusAbove), WIDEST.negate());
        TALLY.makesNothing("2^800 * 2^800", x, () -> x.times(middle, middle));
        TALLY.makesNothing("2^800 * -(2^800 + 1)", x, () -> x.times(middle, minusAbove));
        TALLY.makes("2^800 * (2^800 - 1)", x, () -> x.times(middle, below), twoTo(1_600).subtract(twoTo(800)));
        int nought = x.value(0);
        int minusOne = x.value(-1);
        int two = x.value(2);
        TALLY.makes("2^1600 - 1 by 0", x, () -> x.times(most, nought), BigInteger.ZERO);
        TALLY.makes("0 by 2^1600 - 1", x, () -> x.times(nought, most), BigInteger.ZERO);
        TALLY.makes("2^1600 - 1 by -1", x, () -> x.times(most, minusOne), WIDEST.negate());
        TALLY.makesNothing("2^1600 - 1 by 2", x, () -> x.times(most, two));
        TALLY.makesNothing("2 by 2^1600 - 1", x, () -> x.times(two, most));
        TALLY.makesNothing("2^1600 - 1 squared", x, () -> x.times(most, most));
    }

    private static void productOfUnknown() {
        WideCounts x = new WideCounts();
        TALLY.noSuchIndex("times(0, 0) of a new object", () -> x.times(0, 0));
        x.value(0);
        for (int unknown : unknownBeside(1)) {
            TALLY.noSuchIndex("times(" + unknown + ", 0)", () -> x.times(unknown, 0));
            TALLY.noSuchIndex("times(0, " + unknown + ")", () -> x.times(0, unknown));
            TALLY.noSuchIndex("times(" + unknown + ", " + unknown + ")", () -> x.times(unknown, unknown));
        }
        TALLY.makes("times(0, 0)", x, () -> x.times(0, 0), BigInteger.ZERO);
        TALLY.makes("times(1, 1), which has become known", x, () -> x.times(1, 1), BigInteger.ZERO);
    }

    // Promise 5

    private static void quotientTowardsNought() {
        long[][] pairs = {{7, 2}, {-7, 2}, {7, -2}, {-7, -2}, {1, 2}, {-1, 2}, {1, -2}, {-1, -2}, {6, 7}, {-6, 7}, {-7, 7}, {-8, 7}, {13, -7}, {-14, -7},
            {0, 5}, {0, -5}, {Long.MIN_VALUE, -1}, {Long.MIN_VALUE, 1}, {Long.MIN_VALUE, Long.MAX_VALUE}, {Long.MAX_VALUE, Long.MIN_VALUE},
            {Long.MIN_VALUE, Long.MIN_VALUE}, {-(1L << 40) - 1, 1L << 40}, {(1L << 40) - 1, -(1L << 40)}};
        for (long[] pair : pairs) {
            WideCounts x = new WideCounts();
            x.value(pair[0]);
            x.value(pair[1]);
            TALLY.makes(pair[0] + " over " + pair[1], x, () -> x.over(0, 1), big(pair[0]).divide(big(pair[1])));
        }
        WideCounts x = new WideCounts();
        isNought("-3 over 4", x, x.over(x.value(-3), x.value(4)));
        isNought("3 over -2^62", x, x.over(x.value(3), x.value(-(1L << 62))));
        isNought("-2^60 over 2^60 + 1", x, x.over(x.value(-(1L << 60)), x.value((1L << 60) + 1)));
        isNought("0 over -4", x, x.over(x.value(0), x.value(-4)));
    }

    private static void quotientAtTheWidth() {
        WideCounts x = new WideCounts();
        int most = Made.widest(x);
        int one = x.value(1);
        int minusOne = x.value(-1);
        int least = x.times(most, minusOne);
        int belowMost = x.add(most, minusOne);
        int half = Made.twoTo(x, 1_599);
        TALLY.makes("the widest over 1", x, () -> x.over(most, one), WIDEST);
        TALLY.makes("the widest over -1", x, () -> x.over(most, minusOne), WIDEST.negate());
        TALLY.makes("the least over -1", x, () -> x.over(least, minusOne), WIDEST);
        TALLY.makes("the widest over itself", x, () -> x.over(most, most), BigInteger.ONE);
        TALLY.makes("the least over the widest", x, () -> x.over(least, most), big(-1));
        TALLY.makes("the widest over one less", x, () -> x.over(most, belowMost), BigInteger.ONE);
        TALLY.makes("one less over the widest", x, () -> x.over(belowMost, most), BigInteger.ZERO);
        TALLY.makes("one less over the least", x, () -> x.over(belowMost, least), BigInteger.ZERO);
        TALLY.makes("the widest over 2^1599", x, () -> x.over(most, half), BigInteger.ONE);
        TALLY.makes("2^1599 over the widest", x, () -> x.over(half, most), BigInteger.ZERO);
        TALLY.makes("-1 over the widest", x, () -> x.over(minusOne, most), BigInteger.ZERO);
    }

    private static void quotientOfUnknown() {
        WideCounts x = new WideCounts();
        TALLY.noSuchIndex("over(0, 0) of a new object", () -> x.over(0, 0));
        x.value(3);
        for (int unknown : unknownBeside(1)) {
            TALLY.noSuchIndex("over(" + unknown + ", 0)", () -> x.over(unknown, 0));
            TALLY.noSuchIndex("over(0, " + unknown + ")", () -> x.over(0, unknown));
            TALLY.noSuchIndex("over(" + unknown + ", " + unknown + ")", () -> x.over(unknown, unknown));
        }
        TALLY.makes("over(0, 0)", x, () -> x.over(0, 0), BigInteger.ONE);
    }

    private static void quotientByNought() {
        WideCounts x = new WideCounts();
        int most = Made.widest(x);
        int seven = x.value(-7);
        int[] noughts = {x.value(0), x.add(seven, x.value(7)), x.times(seven, x.value(0)), x.over(seven, most), x.power(x.value(0), 3),
            x.binomial(3, 4), x.determinant(1)};
        int before = x.kept();
        for (int nought : noughts) {
            TALLY.noSuchQuotient("-7 over 0 with the handle " + nought, () -> x.over(seven, nought));
            TALLY.noSuchQuotient("the widest over 0 with the handle " + nought, () -> x.over(most, nought));
            TALLY.noSuchQuotient("0 over 0 with the handle " + nought, () -> x.over(nought, nought));
        }
        TALLY.due("kept() after quotients by 0", x::kept, before);
        int one = x.value(1);
        TALLY.makes("0 over 1", x, () -> x.over(noughts[0], one), BigInteger.ZERO);
    }

    // Promise 6

    private static void powerAtTheWidth() {
        long[] bases = {2, -2, 3, -3, 10, 1L << 32, Long.MAX_VALUE, Long.MIN_VALUE};
        for (long base : bases) {
            WideCounts x = new WideCounts();
            int handle = x.value(base);
            int last = 1;
            while (big(base).pow(last + 1).abs().compareTo(WIDEST) <= 0) {
                last++;
            }
            int n = last;
            TALLY.makes(base + " to the " + n, x, () -> x.power(handle, n), big(base).pow(n));
            for (int more : new int[] {n + 1, n + 2, 2 * n, 1_600, 65_536, 999_999, 1_000_000}) {
                TALLY.makesNothing(base + " to the " + more, x, () -> x.power(handle, more));
            }
        }
        WideCounts x = new WideCounts();
        int most = Made.widest(x);
        int least = x.times(most, x.value(-1));
        TALLY.makes("the widest to the 1", x, () -> x.power(most, 1), WIDEST);
        TALLY.makes("the least to the 1", x, () -> x.power(least, 1), WIDEST.negate());
        TALLY.makesNothing("the widest to the 2", x, () -> x.power(most, 2));
        TALLY.makesNothing("the least to the 3", x, () -> x.power(least, 3));
    }

    private static void powerNought() {
        WideCounts x = new WideCounts();
        int[] bases = {x.value(0), x.value(1), x.value(-1), x.value(2), x.value(Long.MIN_VALUE), Made.widest(x), Made.least(x)};
        for (int base : bases) {
            TALLY.makes("the handle " + base + " to the 0", x, () -> x.power(base, 0), BigInteger.ONE);
        }
        TALLY.makes("0 to the 1", x, () -> x.power(bases[0], 1), BigInteger.ZERO);
        TALLY.makes("-1 to the 1", x, () -> x.power(bases[2], 1), big(-1));
    }

    private static void powerOfUnknown() {
        WideCounts x = new WideCounts();
        TALLY.noSuchIndex("power(0, 0) of a new object", () -> x.power(0, 0));
        x.value(3);
        for (int unknown : unknownBeside(1)) {
            for (int n : new int[] {0, 1, 2, 1_000_000}) {
                TALLY.noSuchIndex("power(" + unknown + ", " + n + ")", () -> x.power(unknown, n));
            }
        }
        TALLY.makes("power(0, 2)", x, () -> x.power(0, 2), big(9));
    }

    private static void powerOutside() {
        WideCounts x = new WideCounts();
        int[] bases = {x.value(0), x.value(1), x.value(-1), x.value(2)};
        for (int base : bases) {
            for (int n : new int[] {-1, -2, LEAST_INT, 1_000_001, 1_000_002, 1 << 20, GREATEST_INT}) {
                TALLY.makesNothing("the handle " + base + " to the " + n, x, () -> x.power(base, n));
            }
        }
        TALLY.makes("0 to the 1000000", x, () -> x.power(bases[0], 1_000_000), BigInteger.ZERO);
        TALLY.makes("1 to the 1000000", x, () -> x.power(bases[1], 1_000_000), BigInteger.ONE);
        TALLY.makes("-1 to the 1000000", x, () -> x.power(bases[2], 1_000_000), BigInteger.ONE);
        TALLY.makes("-1 to the 999999", x, () -> x.power(bases[2], 999_999), big(-1));
        TALLY.makesNothing("2 to the 1000000", x, () -> x.power(bases[3], 1_000_000));
    }

    // Promise 7

    private static BigInteger ways(int n, int k) {
        return Model.product(n - k + 1, n).divide(Model.product(1, k));
    }

    private static void waysAtTheWidth() {
        int lastNarrow = 1_600;
        while (ways(lastNarrow + 1, (lastNarrow + 1) / 2).compareTo(WIDEST) <= 0) {
            lastNarrow++;
        }
        int n = lastNarrow;
        WideCounts x = new WideCounts();
        TALLY.makes("half of " + n, x, () -> x.binomial(n, n / 2), ways(n, n / 2));
        TALLY.makesNothing("half of " + (n + 1), x, () -> x.binomial(n + 1, (n + 1) / 2));
        int lastK = 1;
        while (ways(4_000, lastK + 1).compareTo(WIDEST) <= 0) {
            lastK++;
        }
        int k = lastK;
        TALLY.makes(k + " of 4000", x, () -> x.binomial(4_000, k), ways(4_000, k));
        TALLY.makes(4_000 - k + " of 4000", x, () -> x.binomial(4_000, 4_000 - k), ways(4_000, k));
        TALLY.makesNothing(k + 1 + " of 4000", x, () -> x.binomial(4_000, k + 1));
        TALLY.makesNothing(4_000 - k - 1 + " of 4000", x, () -> x.binomial(4_000, 4_000 - k - 1));
        TALLY.makesNothing("2000 of 4000", x, () -> x.binomial(4_000, 2_000));
    }

    private static void waysToChooseLessThanNone() {
        for (int n : new int[] {0, 1, 5, 1_700, 4_000}) {
            WideCounts x = new WideCounts();
            for (int k : new int[] {-1, -2, -n - 1, LEAST_INT, LEAST_INT + 1}) {
                TALLY.makes(k + " of " + n, x, () -> x.binomial(n, k), BigInteger.ZERO);
            }
            TALLY.makes("0 of " + n, x, () -> x.binomial(n, 0), BigInteger.ONE);
        }
        WideCounts x = new WideCounts();
        isNought("-1 of 5", x, x.binomial(5, -1));
    }

    private static void waysToChooseMoreThanAll() {
        for (int n : new int[] {0, 1, 5, 1_700, 4_000}) {
            WideCounts x = new WideCounts();
            for (int k : new int[] {n + 1, n + 2, 2 * n + 1, 4_001, GREATEST_INT - 1, GREATEST_INT}) {
                TALLY.makes(k + " of " + n, x, () -> x.binomial(n, k), BigInteger.ZERO);
            }
            TALLY.makes(n + " of " + n, x, () -> x.binomial(n, n), BigInteger.ONE);
        }
        WideCounts x = new WideCounts();
        isNought("6 of 5", x, x.binomial(5, 6));
    }

    private static void waysOutside() {
        WideCounts x = new WideCounts();
        for (int n : new int[] {-1, -2, -4_000, LEAST_INT, 4_001, 4_002, GREATEST_INT}) {
            for (int k : new int[] {0, 1, -1, n, n + 1, LEAST_INT, GREATEST_INT}) {
                TALLY.makesNothing(k + " of " + n, x, () -> x.binomial(n, k));
            }
        }
        TALLY.makes("0 of 0", x, () -> x.binomial(0, 0), BigInteger.ONE);
        TALLY.makes("1 of 4000", x, () -> x.binomial(4_000, 1), big(4_000));
        TALLY.makes("3999 of 4000", x, () -> x.binomial(4_000, 3_999), big(4_000));
    }

    // Promise 8

    private static void factorialAtTheWidth() {
        int last = 1;
        while (Model.product(1, last + 1).compareTo(WIDEST) <= 0) {
            last++;
        }
        int n = last;
        WideCounts x = new WideCounts();
        TALLY.makes("factorial(" + n + ")", x, () -> x.factorial(n), Model.product(1, n));
        for (int more : new int[] {n + 1, n + 2, 1_600, 1_601, 1_000_001, GREATEST_INT}) {
            TALLY.makesNothing("factorial(" + more + ")", x, () -> x.factorial(more));
        }
    }

    private static void factorialOfNought() {
        WideCounts x = new WideCounts();
        TALLY.makes("factorial(0)", x, () -> x.factorial(0), BigInteger.ONE);
        TALLY.makes("factorial(1)", x, () -> x.factorial(1), BigInteger.ONE);
        TALLY.makes("factorial(2)", x, () -> x.factorial(2), BigInteger.TWO);
    }

    private static void factorialBelowNought() {
        WideCounts x = new WideCounts();
        for (int n : new int[] {-1, -2, -5, LEAST_INT + 1, LEAST_INT}) {
            TALLY.makesNothing("factorial(" + n + ")", x, () -> x.factorial(n));
        }
    }

    // Promise 12

    private static void firstRowsAndColumns() {
        long[][] table = Made.sensitiveTable();
        for (int size = 1; size <= 12; size++) {
            WideCounts x = new WideCounts();
            Made.enter(x, table);
            int rows = size;
            BigInteger want = Model.determinantOf(table, rows);
            TALLY.makes("determinant(" + rows + ")", x, () -> x.determinant(rows), want);
            for (int at = 0; at < 144; at++) {
                if (at / 12 >= rows || at % 12 >= rows) {
                    x.entry(at / 12, at % 12, 5_000 + at);
                }
            }
            TALLY.makes("determinant(" + rows + ") with all others changed", x, () -> x.determinant(rows), want);
            x.entry(rows - 1, rows - 1, table[rows - 1][rows - 1] + 1);
            BigInteger change = rows == 1 ? BigInteger.ONE : Model.determinantOf(table, rows - 1);
            TALLY.makes("determinant(" + rows + ") with its last entry changed", x, () -> x.determinant(rows), want.add(change));
        }
    }

    private static void determinantAtItsEnds() {
        WideCounts none = new WideCounts();
        none.entry(3, 4, Long.MIN_VALUE);
        TALLY.makes("determinant(12) of one entry", none, () -> none.determinant(12), BigInteger.ZERO);
        isNought("determinant(12) of one entry", none, 0);
        for (int size = 1; size <= 12; size++) {
            determinantFromCornerToCorner(size);
        }
    }

    /** The corners that are turned: rows change their places, and every other time so does the sign. */
    private static void determinantFromCornerToCorner(int size) {
        WideCounts x = new WideCounts();
        for (int i = 0; i < size; i++) {
            x.entry(i, size - 1 - i, Long.MIN_VALUE);
        }
        BigInteger amount = big(Long.MIN_VALUE).pow(size - 1);
        BigInteger cofactor = size / 2 % 2 == 0 ? amount : amount.negate();
        TALLY.makes("determinant(" + size + ") of -2^63", x, () -> x.determinant(size), cofactor.multiply(big(Long.MIN_VALUE)));
        x.entry(0, size - 1, Long.MAX_VALUE);
        TALLY.makes("determinant(" + size + ") with one of 2^63 - 1", x, () -> x.determinant(size), cofactor.multiply(big(Long.MAX_VALUE)));
        if (size < 12) {
            TALLY.makes("determinant(" + (size + 1) + ") with nothing more", x, () -> x.determinant(size + 1), BigInteger.ZERO);
        }
    }

    private static void determinantOfNoRows() {
        WideCounts x = new WideCounts();
        TALLY.makes("determinant(0) of a new object", x, () -> x.determinant(0), BigInteger.ONE);
        Made.enter(x, Made.sensitiveTable());
        TALLY.makes("determinant(0) of a table", x, () -> x.determinant(0), BigInteger.ONE);
        TALLY.makes("determinant(1) of it", x, () -> x.determinant(1), big(Made.sensitiveTable()[0][0]));
        TALLY.makes("determinant(0) after another", x, () -> x.determinant(0), BigInteger.ONE);
    }

    private static void determinantOutside() {
        WideCounts x = new WideCounts();
        Made.enter(x, Made.sensitiveTable());
        for (int size : new int[] {-1, -2, -12, 13, 14, 144, LEAST_INT, GREATEST_INT}) {
            TALLY.makesNothing("determinant(" + size + ")", x, () -> x.determinant(size));
        }
        TALLY.makes("determinant(12)", x, () -> x.determinant(12), Model.determinantOf(Made.sensitiveTable(), 12));
        TALLY.makesNothing("determinant(13) after another", x, () -> x.determinant(13));
    }
}
