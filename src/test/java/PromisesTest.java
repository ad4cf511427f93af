import java.math.BigInteger;

/** The promises one by one: ordinary inputs, the edges that the document names, wrong inputs. */
public final class PromisesTest {
    private static final BigInteger WIDEST = Made.WIDEST;
    private static final int[] UNKNOWN = {-1, Integer.MIN_VALUE, Integer.MAX_VALUE, 160, 8_192};

    private static final Tally TALLY = new Tally("PromisesTest");

    public static void main(String[] args) {
        newObject();
        value();
        add();
        addAtTheWidth();
        times();
        timesAtTheWidth();
        over();
        overOfWideNumbers();
        overWhereTheGuessIsTooHigh();
        power();
        powerOfNoughtAndOnes();
        binomial();
        binomialAtTheWidth();
        binomialTooWideForLong();
        factorial();
        order();
        digit();
        digitsOfTheWidest();
        entry();
        determinant();
        determinantOfNoRowsAndOfTooMany();
        determinantOfGreatEntries();
        determinantWithNoughts();
        residue();
        kept();
        fullUp();
        throwingGoesAheadOfNothing();
        oneObjectIsNotAnother();
        TALLY.end();
    }

    private static BigInteger big(long v) {
        return BigInteger.valueOf(v);
    }

    // Promise 1

    private static void newObject() {
        WideCounts x = new WideCounts();
        TALLY.due("kept() of a new object", x::kept, 0);
        TALLY.noSuchIndex("order(0, 0) of a new object", () -> x.order(0, 0));
        for (int size = 1; size <= 12; size++) {
            int rows = size;
            TALLY.makes("determinant(" + rows + ") of a new object", x, () -> x.determinant(rows), BigInteger.ZERO);
        }
    }

    // Promise 2

    private static void value() {
        WideCounts x = new WideCounts();
        long[] values = {0, 1, -1, 33_554_431, 33_554_432, 4_294_967_296L, 1L << 50, Long.MAX_VALUE, Long.MIN_VALUE, Long.MIN_VALUE + 1, 7, 7};
        for (long v : values) {
            TALLY.makes("value(" + v + ")", x, () -> x.value(v), big(v));
        }
    }

    // Promise 3

    private static void add() {
        long[][] pairs = {{2, 3}, {2, -3}, {-2, 3}, {-2, -3}, {5, -5}, {0, -4}, {0, 0},
            {Long.MAX_VALUE, Long.MAX_VALUE}, {Long.MIN_VALUE, Long.MIN_VALUE}, {Long.MIN_VALUE, Long.MAX_VALUE}, {33_554_431, 1}, {33_554_432, -1}};
        for (long[] pair : pairs) {
            WideCounts x = new WideCounts();
            x.value(pair[0]);
            x.value(pair[1]);
            TALLY.makes("add of " + pair[0] + " and " + pair[1], x, () -> x.add(0, 1), big(pair[0]).add(big(pair[1])));
            TALLY.makes("add of " + pair[1] + " to itself", x, () -> x.add(1, 1), big(pair[1]).add(big(pair[1])));
            TALLY.holds("what was added to", x, 0, big(pair[0]));
        }
        WideCounts x = new WideCounts();
        x.value(1);
        TALLY.noSuchIndex("add(0, 1)", () -> x.add(0, 1));
        TALLY.noSuchIndex("add(1, 0)", () -> x.add(1, 0));
        for (int unknown : UNKNOWN) {
            TALLY.noSuchIndex("add(0, " + unknown + ")", () -> x.add(0, unknown));
            TALLY.noSuchIndex("add(" + unknown + ", 0)", () -> x.add(unknown, 0));
        }
        TALLY.due("kept() after what threw", x::kept, 1);
    }

    private static void addAtTheWidth() {
        WideCounts x = new WideCounts();
        int one = x.value(1);
        int minusOne = x.value(-1);
        int most = Made.widest(x);
        TALLY.holds("2^1600 - 1", x, most, WIDEST);
        TALLY.makesNothing("2^1600 - 1 + 1", x, () -> x.add(most, one));
        TALLY.makesNothing("2^1600 - 1 twice", x, () -> x.add(most, most));
        int least = x.times(most, minusOne);
        TALLY.holds("1 - 2^1600", x, least, WIDEST.negate());
        TALLY.makesNothing("1 - 2^1600 - 1", x, () -> x.add(least, minusOne));
        TALLY.makes("1 - 2^1600 + 1", x, () -> x.add(least, one), WIDEST.negate().add(BigInteger.ONE));
        TALLY.makes("the widest and the least", x, () -> x.add(least, most), BigInteger.ZERO);
    }

    // Promise 4

    private static void times() {
        long[][] pairs = {{6, 7}, {-6, 7}, {6, -7}, {-6, -7}, {0, -7}, {-7, 0}, {0, 0},
            {Long.MIN_VALUE, Long.MIN_VALUE}, {Long.MIN_VALUE, Long.MAX_VALUE}, {Long.MAX_VALUE, Long.MAX_VALUE}, {33_554_431, 33_554_431}};
        for (long[] pair : pairs) {
            WideCounts x = new WideCounts();
            x.value(pair[0]);
            x.value(pair[1]);
            TALLY.makes("times of " + pair[0] + " and " + pair[1], x, () -> x.times(0, 1), big(pair[0]).multiply(big(pair[1])));
            TALLY.due("the sign of nought", () -> x.order(x.times(0, x.value(0)), x.value(0)), 0);
        }
        WideCounts x = new WideCounts();
        x.value(0);
        TALLY.noSuchIndex("times(0, 1)", () -> x.times(0, 1));
        for (int unknown : UNKNOWN) {
            TALLY.noSuchIndex("times(0, " + unknown + ")", () -> x.times(0, unknown));
            TALLY.noSuchIndex("times(" + unknown + ", 0)", () -> x.times(unknown, 0));
        }
        TALLY.due("kept() after what threw", x::kept, 1);
    }

    private static void timesAtTheWidth() {
        WideCounts x = new WideCounts();
        int low = Made.twoTo(x, 799);
        int middle = Made.twoTo(x, 800);
        int high = Made.twoTo(x, 801);
        TALLY.makes("2^799 * 2^800", x, () -> x.times(low, middle), BigInteger.TWO.pow(1599));
        TALLY.makesNothing("2^800 * 2^800", x, () -> x.times(middle, middle));
        TALLY.makesNothing("2^799 * 2^801", x, () -> x.times(low, high));
        int below = x.add(middle, x.value(-1));
        int above = x.add(middle, x.value(1));
        TALLY.makes("(2^800 - 1) * (2^800 + 1)", x, () -> x.times(below, above), WIDEST);
        int minus = x.times(below, x.value(-1));
        TALLY.makes("(1 - 2^800) * (2^800 + 1)", x, () -> x.times(minus, above), WIDEST.negate());
        TALLY.makesNothing("(2^800 + 1) squared", x, () -> x.times(above, above));
        int most = Made.widest(x);
        TALLY.makesNothing("2^1600 - 1 squared", x, () -> x.times(most, most));
        int two = x.value(2);
        TALLY.makesNothing("2^1600 - 1 doubled", x, () -> x.times(most, two));
    }

    // Promise 5

    private static void over() {
        long[] values = {7, -7, 2, -2, 1, -1, 10, 33_554_432, 33_554_433, Long.MAX_VALUE, Long.MIN_VALUE, 1L << 50};
        for (long v : values) {
            WideCounts x = new WideCounts();
            int first = x.value(v);
            for (long w : values) {
                int second = x.value(w);
                TALLY.makes(v + " over " + w, x, () -> x.over(first, second), big(v).divide(big(w)));
            }
        }
        WideCounts x = new WideCounts();
        int nought = x.value(0);
        int five = x.value(5);
        TALLY.makes("0 over 5", x, () -> x.over(nought, five), BigInteger.ZERO);
        TALLY.noSuchQuotient("5 over 0", () -> x.over(five, nought));
        TALLY.noSuchQuotient("0 over 0", () -> x.over(nought, nought));
        for (int unknown : UNKNOWN) {
            TALLY.noSuchIndex("over(" + unknown + ", 0)", () -> x.over(unknown, nought));
            TALLY.noSuchIndex("over(5, " + unknown + ")", () -> x.over(five, unknown));
        }
        TALLY.due("kept() after what threw", x::kept, 3);
    }

    private static void overOfWideNumbers() {
        int[] bits = {24, 25, 26, 49, 50, 51, 63, 75, 799, 800, 801, 1574, 1575, 1576, 1599};
        for (int bit : bits) {
            WideCounts x = new WideCounts();
            BigInteger most = WIDEST;
            int wide = Made.widest(x);
            int two = Made.twoTo(x, bit);
            BigInteger power = BigInteger.TWO.pow(bit);
            TALLY.makes("2^1600 - 1 over 2^" + bit, x, () -> x.over(wide, two), most.divide(power));
            int below = x.add(two, x.value(-1));
            TALLY.makes("2^1600 - 1 over 2^" + bit + " - 1", x, () -> x.over(wide, below), most.divide(power.subtract(BigInteger.ONE)));
            int above = x.times(x.add(two, x.value(1)), x.value(-1));
            TALLY.makes("2^1600 - 1 over -(2^" + bit + " + 1)", x, () -> x.over(wide, above), most.divide(power.add(BigInteger.ONE).negate()));
            TALLY.makes("the less over the greater", x, () -> x.over(below, two), BigInteger.ZERO);
            int seven = x.value(-7);
            TALLY.makes("-7 over 2^1600 - 1", x, () -> x.over(seven, wide), BigInteger.ZERO);
            TALLY.makes("a number over itself", x, () -> x.over(above, above), BigInteger.ONE);
        }
    }

    /** Long division by limbs of any size guesses too high where a divisor's lower limbs are full. */
    private static void overWhereTheGuessIsTooHigh() {
        int[] limbs = {16, 24, 25, 28, 30, 31, 32};
        for (int limb : limbs) {
            BigInteger base = BigInteger.ONE.shiftLeft(limb);
            BigInteger half = base.shiftRight(1);
            BigInteger low = base.subtract(BigInteger.ONE);
            BigInteger[] divisors = {
                half.multiply(base).add(low), half.multiply(base).add(BigInteger.ONE), half.multiply(base.pow(2)).add(low),
                half.multiply(base.pow(2)).add(BigInteger.ONE), half.multiply(base.pow(2)).add(low.multiply(base)), base.pow(2).subtract(BigInteger.ONE)
            };
            BigInteger[] dividends = {
                half.multiply(base.pow(3)), half.multiply(base.pow(3)).subtract(BigInteger.ONE), half.multiply(base.pow(4)).add(low),
                base.pow(5).subtract(base.pow(2)), half.multiply(base.pow(2)).add(low.multiply(base)), half.multiply(base.pow(2)).subtract(base)
            };
            for (BigInteger divisor : divisors) {
                for (BigInteger dividend : dividends) {
                    WideCounts x = new WideCounts();
                    int first = Made.write(x, dividend);
                    int second = Made.write(x, divisor);
                    TALLY.makes(dividend + " over " + divisor, x, () -> x.over(first, second), dividend.divide(divisor));
                }
            }
        }
    }

    // Promise 6

    private static void power() {
        WideCounts x = new WideCounts();
        int two = x.value(2);
        int minusThree = x.value(-3);
        TALLY.makes("2^1599", x, () -> x.power(two, 1599), BigInteger.TWO.pow(1599));
        TALLY.makesNothing("2^1600", x, () -> x.power(two, 1600));
        TALLY.makesNothing("2^1601", x, () -> x.power(two, 1601));
        TALLY.makesNothing("2^1000000", x, () -> x.power(two, 1_000_000));
        TALLY.makesNothing("2^1048576", x, () -> x.power(two, 1_048_576));
        TALLY.makes("(-3)^0", x, () -> x.power(minusThree, 0), BigInteger.ONE);
        TALLY.makes("(-3)^1", x, () -> x.power(minusThree, 1), big(-3));
        TALLY.makes("(-3)^4", x, () -> x.power(minusThree, 4), big(81));
        TALLY.makes("(-3)^1009", x, () -> x.power(minusThree, 1009), big(-3).pow(1009));
        TALLY.makesNothing("(-3)^1010", x, () -> x.power(minusThree, 1010));
        int most = Made.widest(x);
        TALLY.makes("(2^1600 - 1)^1", x, () -> x.power(most, 1), WIDEST);
        TALLY.makesNothing("(2^1600 - 1)^2", x, () -> x.power(most, 2));
        TALLY.makesNothing("2^-1", x, () -> x.power(two, -1));
        TALLY.makesNothing("2^least", x, () -> x.power(two, Integer.MIN_VALUE));
        TALLY.makesNothing("2^greatest", x, () -> x.power(two, Integer.MAX_VALUE));
        for (int unknown : UNKNOWN) {
            TALLY.noSuchIndex("power(" + unknown + ", 1)", () -> x.power(unknown, 1));
            TALLY.noSuchIndex("power(" + unknown + ", -1)", () -> x.power(unknown, -1));
        }
    }

    private static void powerOfNoughtAndOnes() {
        WideCounts x = new WideCounts();
        int nought = x.value(0);
        int one = x.value(1);
        int minusOne = x.value(-1);
        TALLY.makes("0^0", x, () -> x.power(nought, 0), BigInteger.ONE);
        TALLY.makes("0^1", x, () -> x.power(nought, 1), BigInteger.ZERO);
        TALLY.makes("0^1000000", x, () -> x.power(nought, 1_000_000), BigInteger.ZERO);
        TALLY.makes("1^1000000", x, () -> x.power(one, 1_000_000), BigInteger.ONE);
        TALLY.makes("(-1)^999999", x, () -> x.power(minusOne, 999_999), big(-1));
        TALLY.makes("(-1)^1000000", x, () -> x.power(minusOne, 1_000_000), BigInteger.ONE);
        TALLY.makesNothing("0^1000001", x, () -> x.power(nought, 1_000_001));
        TALLY.makesNothing("1^1000001", x, () -> x.power(one, 1_000_001));
        TALLY.makesNothing("1^-1", x, () -> x.power(one, -1));
    }

    // Promise 7

    private static void binomial() {
        for (int n = 0; n <= 9; n++) {
            WideCounts x = new WideCounts();
            BigInteger ways = BigInteger.ONE;
            for (int k = 0; k <= n; k++) {
                int chosen = k;
                int of = n;
                TALLY.makes("binomial(" + n + ", " + k + ")", x, () -> x.binomial(of, chosen), ways);
                ways = ways.multiply(big(n - k)).divide(big(k + 1));
            }
        }
        WideCounts x = new WideCounts();
        int[] none = {-1, 5, 4_000, Integer.MIN_VALUE, Integer.MAX_VALUE};
        for (int k : none) {
            TALLY.makes("binomial(4, " + k + ")", x, () -> x.binomial(4, k), BigInteger.ZERO);
            TALLY.makesNothing("binomial(-1, " + k + ")", x, () -> x.binomial(-1, k));
            TALLY.makesNothing("binomial(4001, " + k + ")", x, () -> x.binomial(4001, k));
        }
        TALLY.makesNothing("binomial(4001, 0)", x, () -> x.binomial(4001, 0));
        TALLY.makesNothing("binomial(-1, -1)", x, () -> x.binomial(-1, -1));
        TALLY.makesNothing("binomial(least, 0)", x, () -> x.binomial(Integer.MIN_VALUE, 0));
        TALLY.makesNothing("binomial(greatest, 1)", x, () -> x.binomial(Integer.MAX_VALUE, 1));
    }

    private static void binomialAtTheWidth() {
        int[] greats = {1_600, 1_603, 1_604, 1_605, 1_606, 1_607, 1_608, 1_700, 2_500, 4_000};
        for (int n : greats) {
            WideCounts x = new WideCounts();
            Model model = new Model();
            int narrow = 0;
            for (int k = 0; k <= n / 2 && model.binomial(n, k) >= 0; k++) {
                narrow = k;
                model.numbers.clear();
            }
            BigInteger ways = Model.product(n - narrow + 1, n).divide(Model.product(1, narrow));
            int most = narrow;
            TALLY.makes("binomial(" + n + ", " + most + ")", x, () -> x.binomial(n, most), ways);
            TALLY.makes("binomial(" + n + ", " + (n - most) + ")", x, () -> x.binomial(n, n - most), ways);
            if (most < n / 2) {
                TALLY.makesNothing("binomial(" + n + ", " + (most + 1) + ")", x, () -> x.binomial(n, most + 1));
                TALLY.makesNothing("binomial(" + n + ", " + (n - most - 1) + ")", x, () -> x.binomial(n, n - most - 1));
                TALLY.makesNothing("binomial(" + n + ", " + n / 2 + ")", x, () -> x.binomial(n, n / 2));
            }
            TALLY.makes("binomial(" + n + ", 0)", x, () -> x.binomial(n, 0), BigInteger.ONE);
            TALLY.makes("binomial(" + n + ", all)", x, () -> x.binomial(n, n), BigInteger.ONE);
            TALLY.makes("binomial(" + n + ", more)", x, () -> x.binomial(n, n + 1), BigInteger.ZERO);
        }
    }

    /** What was TOO WIDE on the way would fit again here, if its highest bits were lost. */
    private static void binomialTooWideForLong() {
        int[][] pairs = {{3_950, 1_059}, {3_932, 1_706}, {3_777, 1_741}, {3_777, 1_747}, {4_000, 2_000}};
        WideCounts x = new WideCounts();
        for (int[] pair : pairs) {
            TALLY.makesNothing("binomial(" + pair[0] + ", " + pair[1] + ")", x, () -> x.binomial(pair[0], pair[1]));
        }
    }

    // Promise 8

    private static void factorial() {
        int most = 0;
        while (Model.product(1, most + 1).compareTo(Model.TOO_WIDE) < 0) {
            most++;
        }
        int[] narrow = {0, 1, 2, 3, 20, 21, 100, most - 1, most};
        WideCounts x = new WideCounts();
        for (int n : narrow) {
            TALLY.makes("factorial(" + n + ")", x, () -> x.factorial(n), Model.product(1, n));
        }
        int[] none = {-1, Integer.MIN_VALUE, most + 1, most + 2, 1_600, 1_601, 100_000, Integer.MAX_VALUE};
        for (int n : none) {
            TALLY.makesNothing("factorial(" + n + ")", x, () -> x.factorial(n));
        }
    }

    // Promise 9

    private static void order() {
        WideCounts x = new WideCounts();
        int most = Made.widest(x);
        int least = x.times(most, x.value(-1));
        int great = x.add(most, x.value(-1));
        int minusGreat = x.times(great, x.value(-1));
        int[] rising = {least, minusGreat, x.value(Long.MIN_VALUE), x.value(-33_554_432), x.value(-1), x.value(0), x.value(1),
            x.value(2), x.value(33_554_431), x.value(33_554_432), x.value(Long.MAX_VALUE), great, most};
        for (int i = 0; i < rising.length; i++) {
            for (int j = 0; j < rising.length; j++) {
                int first = rising[i];
                int second = rising[j];
                TALLY.due("order of place " + i + " and place " + j, () -> x.order(first, second), Integer.compare(i, j));
            }
        }
        int again = x.add(x.value(40), x.value(2));
        TALLY.due("order of two that are the same", () -> x.order(again, x.value(42)), 0);
        for (int unknown : UNKNOWN) {
            TALLY.noSuchIndex("order(0, " + unknown + ")", () -> x.order(0, unknown));
            TALLY.noSuchIndex("order(" + unknown + ", 0)", () -> x.order(unknown, 0));
        }
    }

    // Promise 10

    private static void digit() {
        long[] values = {0, 5, -5, 10, -907, 999_999_999, 1_000_000_000, -1_000_000_001, 100_000_000_000_000_000L, Long.MAX_VALUE, Long.MIN_VALUE};
        WideCounts x = new WideCounts();
        for (long v : values) {
            int handle = x.value(v);
            String digits = big(v).abs().toString();
            for (int i = 0; i < digits.length(); i++) {
                int at = i;
                TALLY.due("digit " + i + " of " + v, () -> x.digit(handle, at), digits.charAt(digits.length() - 1 - i) - '0');
            }
            int[] none = {-1, digits.length(), digits.length() + 1, 481, 482, Integer.MIN_VALUE, Integer.MAX_VALUE};
            for (int i : none) {
                TALLY.noSuchIndex("digit " + i + " of " + v, () -> x.digit(handle, i));
            }
        }
        for (int unknown : UNKNOWN) {
            TALLY.noSuchIndex("digit(" + unknown + ", 0)", () -> x.digit(unknown, 0));
        }
        TALLY.due("kept() after digits", x::kept, values.length);
        TALLY.holds("a number whose digits were asked", x, values.length - 1, big(Long.MIN_VALUE));
    }

    private static void digitsOfTheWidest() {
        WideCounts x = new WideCounts();
        int most = Made.widest(x);
        String digits = WIDEST.toString();
        for (int i = 0; i < digits.length(); i++) {
            int at = i;
            TALLY.due("digit " + i + " of 2^1600 - 1", () -> x.digit(most, at), digits.charAt(digits.length() - 1 - i) - '0');
        }
        TALLY.noSuchIndex("digit 482 of 2^1600 - 1", () -> x.digit(most, 482));
        int ten = x.value(-10);
        int round = x.power(ten, 481);
        TALLY.due("digit 481 of -10^481", () -> x.digit(round, 481), 1);
        TALLY.due("digit 480 of -10^481", () -> x.digit(round, 480), 0);
        TALLY.noSuchIndex("digit 482 of -10^481", () -> x.digit(round, 482));
    }

    // Promise 11

    private static void entry() {
        WideCounts x = new WideCounts();
        TALLY.truth("entry(0, 0, 5)", x.entry(0, 0, 5), true);
        TALLY.truth("entry(11, 11, 3)", x.entry(11, 11, 3), true);
        TALLY.truth("entry(0, 11, 1)", x.entry(0, 11, 1), true);
        TALLY.truth("entry(11, 0, 1)", x.entry(11, 0, 1), true);
        int[] none = {-1, 12, 13, 144, Integer.MIN_VALUE, Integer.MAX_VALUE};
        for (int i : none) {
            TALLY.truth("entry(" + i + ", 0, 9)", x.entry(i, 0, 9), false);
            TALLY.truth("entry(0, " + i + ", 9)", x.entry(0, i, 9), false);
            TALLY.truth("entry(" + i + ", " + i + ", 9)", x.entry(i, i, 9), false);
        }
        TALLY.due("kept() after entries", x::kept, 0);
        for (int i = 1; i < 11; i++) {
            x.entry(i, i, 1);
        }
        TALLY.makes("determinant(12) of corners", x, () -> x.determinant(12), big(5 * 3 - 1));
        TALLY.truth("entry(0, 0, -7) over an entry", x.entry(0, 0, -7), true);
        TALLY.makes("determinant(1) of an entry laid over", x, () -> x.determinant(1), big(-7));
        TALLY.makes("determinant(12) of an entry laid over", x, () -> x.determinant(12), big(-7 * 3 - 1));
    }

    // Promise 12

    private static void determinant() {
        long[][] table = new long[12][12];
        long next = 1;
        for (int i = 0; i < 12; i++) {
            for (int j = 0; j < 12; j++) {
                next = next * 1_103_515_245 + 12_345 & 0x7FFF_FFFF;
                table[i][j] = next % 19 - 9;
            }
        }
        determinantsOf("ordinary entries", table);
    }

    private static void determinantOfNoRowsAndOfTooMany() {
        WideCounts x = new WideCounts();
        x.entry(0, 0, 4);
        TALLY.makes("determinant(0)", x, () -> x.determinant(0), BigInteger.ONE);
        int[] none = {-1, 13, 144, Integer.MIN_VALUE, Integer.MAX_VALUE};
        for (int size : none) {
            TALLY.makesNothing("determinant(" + size + ")", x, () -> x.determinant(size));
        }
        TALLY.makes("determinant(1)", x, () -> x.determinant(1), big(4));
        TALLY.makes("determinant(1) again", x, () -> x.determinant(1), big(4));
    }

    /** Rows of +- 2^63 by Hadamard's pattern: no determinant of longs is greater. */
    private static void determinantOfGreatEntries() {
        long[] firstRow = {-1, 1, -1, 1, 1, 1, -1, -1, -1, 1, -1};
        long[][] greatest = new long[12][12];
        long[][] alike = new long[12][12];
        long[][] mixed = new long[12][12];
        for (int i = 0; i < 12; i++) {
            for (int j = 0; j < 12; j++) {
                boolean plus = i == 0 || j == 0 || firstRow[(j - i + 11) % 11] > 0;
                greatest[i][j] = plus ? Long.MAX_VALUE : Long.MIN_VALUE;
                alike[i][j] = Long.MIN_VALUE;
                mixed[i][j] = i == j ? Long.MIN_VALUE : Long.MAX_VALUE;
            }
        }
        TALLY.truth("the pattern is great", Model.determinantOf(greatest, 12).bitLength() > 775, true);
        long[][][] tables = {greatest, alike, mixed};
        for (long[][] table : tables) {
            determinantsOf("great entries", table);
        }
    }

    private static void determinantWithNoughts() {
        long[][] turned = new long[12][12];
        long[][] late = new long[12][12];
        long[][] sameRows = new long[12][12];
        long[][] noColumn = new long[12][12];
        for (int i = 0; i < 12; i++) {
            turned[i][(i + 1) % 12] = i + 2;
            late[i][i] = 1;
            for (int j = 0; j < 12; j++) {
                sameRows[i][j] = i == 11 ? (5L * 7 + 3 * j) * 2 : (i + 2L) * (i + 2) % 13 + 5L * (i * j % 7);
                noColumn[i][j] = j == 4 ? 0 : i * 31L + j * j * 17L + (i ^ j);
            }
            sameRows[i][0] = i;
        }
        System.arraycopy(sameRows[3], 0, sameRows[9], 0, 12);
        late[0][0] = 1;
        late[0][1] = 2;
        late[1][0] = 2;
        late[1][1] = 4;
        late[1][2] = 5;
        late[2][1] = 7;
        determinantsOf("a turned table", turned);
        determinantsOf("a pivot that becomes 0", late);
        determinantsOf("two rows alike", sameRows);
        determinantsOf("a column of 0", noColumn);
    }

    private static void determinantsOf(String what, long[][] table) {
        WideCounts x = new WideCounts();
        for (int i = 0; i < 12; i++) {
            for (int j = 0; j < 12; j++) {
                x.entry(i, j, table[i][j]);
            }
        }
        for (int size = 1; size <= 12; size++) {
            int rows = size;
            TALLY.makes("determinant(" + size + ") of " + what, x, () -> x.determinant(rows), Model.determinantOf(table, size));
        }
    }

    // Promise 13

    private static void residue() {
        long[] values = {0, 1, -1, 10, -10, 7, -7, Long.MAX_VALUE, Long.MIN_VALUE, Long.MIN_VALUE + 1};
        long[] moduli = {1, -1, 2, -2, 7, -7, 10, Long.MAX_VALUE, -Long.MAX_VALUE, Long.MIN_VALUE, 1L << 62, -(1L << 62)};
        for (long v : values) {
            WideCounts x = new WideCounts();
            int handle = x.value(v);
            for (long modulus : moduli) {
                long want = big(v).mod(big(modulus).abs()).longValueExact();
                TALLY.due(v + " by " + modulus, () -> x.residue(handle, modulus), want);
            }
            TALLY.noSuchQuotient(v + " by 0", () -> x.residue(handle, 0));
            for (int unknown : UNKNOWN) {
                TALLY.noSuchIndex("residue(" + unknown + ", 0)", () -> x.residue(unknown, 0));
                TALLY.noSuchIndex("residue(" + unknown + ", 5)", () -> x.residue(unknown, 5));
            }
            TALLY.due("kept() after residues", x::kept, 1);
        }
        WideCounts x = new WideCounts();
        int most = Made.widest(x);
        int least = x.times(most, x.value(-1));
        for (long modulus : moduli) {
            BigInteger amount = big(modulus).abs();
            TALLY.due("2^1600 - 1 by " + modulus, () -> x.residue(most, modulus), WIDEST.mod(amount).longValueExact());
            TALLY.due("1 - 2^1600 by " + modulus, () -> x.residue(least, modulus), WIDEST.negate().mod(amount).longValueExact());
        }
        TALLY.due("2^1600 - 1 by -2^63", () -> x.residue(most, Long.MIN_VALUE), Long.MAX_VALUE);
    }

    // Promise 14

    private static void kept() {
        WideCounts x = new WideCounts();
        for (int i = 0; i < 160; i++) {
            TALLY.due("kept()", x::kept, i);
            int want = i;
            TALLY.due("value(" + i + ")", () -> x.value(want * 3L), i);
        }
        TALLY.due("kept()", x::kept, 160);
        for (int i = 0; i < 160; i++) {
            int handle = i;
            TALLY.due("what handle " + i + " has", () -> x.residue(handle, 1_000), i * 3);
        }
    }

    // Terms

    private static void fullUp() {
        WideCounts x = new WideCounts();
        for (int i = 0; i < 160; i++) {
            x.value(i);
        }
        TALLY.makesNothing("value(1) when full", x, () -> x.value(1));
        TALLY.makesNothing("add(1, 2) when full", x, () -> x.add(1, 2));
        TALLY.makesNothing("times(1, 2) when full", x, () -> x.times(1, 2));
        TALLY.makesNothing("over(1, 2) when full", x, () -> x.over(1, 2));
        TALLY.makesNothing("power(1, 2) when full", x, () -> x.power(1, 2));
        TALLY.makesNothing("binomial(4, 2) when full", x, () -> x.binomial(4, 2));
        TALLY.makesNothing("binomial(4, 5) when full", x, () -> x.binomial(4, 5));
        TALLY.makesNothing("factorial(3) when full", x, () -> x.factorial(3));
        TALLY.makesNothing("determinant(0) when full", x, () -> x.determinant(0));
        TALLY.makesNothing("determinant(2) when full", x, () -> x.determinant(2));
        TALLY.due("order(159, 158) when full", () -> x.order(159, 158), 1);
        TALLY.due("digit(159, 2) when full", () -> x.digit(159, 2), 1);
        TALLY.due("residue(159, 100) when full", () -> x.residue(159, 100), 59);
        TALLY.truth("entry(1, 1, 1) when full", x.entry(1, 1, 1), true);
        TALLY.holds("the last number", x, 159, big(159));
    }

    private static void throwingGoesAheadOfNothing() {
        WideCounts x = new WideCounts();
        for (int i = 0; i < 160; i++) {
            x.value(i);
        }
        TALLY.noSuchIndex("add(160, 0) when full", () -> x.add(160, 0));
        TALLY.noSuchIndex("times(0, 160) when full", () -> x.times(0, 160));
        TALLY.noSuchIndex("over(160, 0) when full", () -> x.over(160, 0));
        TALLY.noSuchIndex("over(0, 160) when full", () -> x.over(0, 160));
        TALLY.noSuchQuotient("over(5, 0) when full", () -> x.over(5, 0));
        TALLY.noSuchIndex("power(-1, -1) when full", () -> x.power(-1, -1));
        TALLY.noSuchIndex("power(160, 2000000) when full", () -> x.power(160, 2_000_000));
        TALLY.due("kept() after what threw", x::kept, 160);
    }

    private static void oneObjectIsNotAnother() {
        WideCounts x = new WideCounts();
        WideCounts y = new WideCounts();
        x.value(11);
        x.entry(0, 0, 6);
        TALLY.due("kept() of the other object", y::kept, 0);
        TALLY.makes("determinant(1) of the other object", y, () -> y.determinant(1), BigInteger.ZERO);
        TALLY.makes("determinant(1) of the one object", x, () -> x.determinant(1), big(6));
        TALLY.holds("the number of the one object", x, 0, big(11));
    }
}
