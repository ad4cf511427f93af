import java.math.BigInteger;

/** Each sentence of promises 1, 9, 10, 11, 13 and 14 that names a boundary case has a test of its own here. */
public final class AskingBoundariesTest {
    private static final Tally TALLY = new Tally("AskingBoundariesTest");
    private static final BigInteger WIDEST = Made.WIDEST;
    private static final int LEAST_INT = Integer.MIN_VALUE;
    private static final int GREATEST_INT = Integer.MAX_VALUE;
    private static final BigInteger TWO_TO_63 = BigInteger.TWO.pow(63);

    public static void main(String[] args) {
        TALLY.sentence("1: No numbers", AskingBoundariesTest::noNumbers);
        TALLY.sentence("1: all entries 0", AskingBoundariesTest::allEntriesNought);
        TALLY.sentence("9: -1, 0, 1: the first one is less than, the same as, greater than the second one", AskingBoundariesTest::orderOfNeighbours);
        TALLY.sentence("9: the same as", AskingBoundariesTest::orderOfTheSame);
        TALLY.sentence("9: ArrayIndexOutOfBoundsException: a or b is not KNOWN", AskingBoundariesTest::orderOfUnknown);
        TALLY.sentence("10: Digit i of the amount, in decimal, the lowest one being digit 0", AskingBoundariesTest::lowestAndHighestDigit);
        TALLY.sentence("10: Digit i of the amount (of a number below 0)", AskingBoundariesTest::digitsBelowNought);
        TALLY.sentence("10: (0 has one digit)", AskingBoundariesTest::digitOfNought);
        TALLY.sentence("10: ArrayIndexOutOfBoundsException: a is not KNOWN", AskingBoundariesTest::digitOfUnknown);
        TALLY.sentence("10: ArrayIndexOutOfBoundsException: .. there is no such digit", AskingBoundariesTest::noSuchDigit);
        TALLY.sentence("11: An entry of THE TABLE becomes v: true", AskingBoundariesTest::entryBecomes);
        TALLY.sentence("11: false when there is no such row", AskingBoundariesTest::noSuchRow);
        TALLY.sentence("11: false when there is no such .. column", AskingBoundariesTest::noSuchColumn);
        TALLY.sentence("13: The least number that is not below 0", AskingBoundariesTest::residueNotBelowNought);
        TALLY.sentence("13: differs from a by a multiple of the modulus (of either sign)", AskingBoundariesTest::residueByEitherSign);
        TALLY.sentence("13: The least number, of the widest numbers", AskingBoundariesTest::residueOfTheWidest);
        TALLY.sentence("13: ArrayIndexOutOfBoundsException: a is not KNOWN", AskingBoundariesTest::residueOfUnknown);
        TALLY.sentence("13: ArithmeticException: the modulus is 0", AskingBoundariesTest::residueByNought);
        TALLY.sentence("13: (Of the modulus -2^63 it may be as much as 2^63 - 1.)", AskingBoundariesTest::residueByTheLeastLong);
        TALLY.sentence("14: How many numbers are kept", AskingBoundariesTest::howMany);
        TALLY.end();
    }

    private static BigInteger big(long v) {
        return BigInteger.valueOf(v);
    }

    private static int[] unknownBeside(int kept) {
        return new int[] {-1, kept, kept + 1, 159, 160, LEAST_INT, GREATEST_INT};
    }

    // Promise 1

    private static void noNumbers() {
        WideCounts x = new WideCounts();
        TALLY.due("kept() of a new object", x::kept, 0);
        for (int handle : unknownBeside(0)) {
            TALLY.noSuchIndex("order(" + handle + ", " + handle + ") of a new object", () -> x.order(handle, handle));
            TALLY.noSuchIndex("digit(" + handle + ", 0) of a new object", () -> x.digit(handle, 0));
            TALLY.noSuchIndex("residue(" + handle + ", 1) of a new object", () -> x.residue(handle, 1));
        }
        TALLY.due("the first number of a new object", () -> x.value(5), 0);
        WideCounts other = new WideCounts();
        TALLY.due("kept() of a new object beside one with a number", other::kept, 0);
        TALLY.noSuchIndex("order(0, 0) of a new object beside one with a number", () -> other.order(0, 0));
    }

    private static void allEntriesNought() {
        WideCounts used = new WideCounts();
        Made.enter(used, Made.sensitiveTable());
        used.determinant(12);
        WideCounts x = new WideCounts();
        for (int size = 1; size <= 12; size++) {
            int rows = size;
            TALLY.makes("determinant(" + size + ") of a new object", x, () -> x.determinant(rows), BigInteger.ZERO);
        }
        for (int free = 0; free < 12; free++) {
            WideCounts y = new WideCounts();
            for (int step = 1; step < 12; step++) {
                y.entry((free + step) % 12, (free + step) % 12, 3);
            }
            TALLY.makes("determinant(12) with all but " + free, y, () -> y.determinant(12), BigInteger.ZERO);
            y.entry(free, free, 3);
            TALLY.makes("determinant(12) with all, " + free + " last", y, () -> y.determinant(12), big(3).pow(12));
        }
    }

    // Promise 9

    private static void orderOfNeighbours() {
        BigInteger[] rising = {WIDEST.negate(), WIDEST.negate().add(BigInteger.ONE), BigInteger.TWO.pow(1_599).negate(), TWO_TO_63.negate(),
            big(-2), big(-1), BigInteger.ZERO, BigInteger.ONE, BigInteger.TWO, TWO_TO_63, BigInteger.TWO.pow(1_599), WIDEST.subtract(BigInteger.ONE), WIDEST};
        int last = rising.length - 1;
        for (int i = 0; i < last; i++) {
            ordered(rising[i], rising[i + 1]);
            ordered(rising[i], rising[last]);
            ordered(rising[0], rising[i + 1]);
        }
    }

    private static void ordered(BigInteger less, BigInteger greater) {
        WideCounts x = new WideCounts();
        int first = Made.write(x, less);
        int second = Made.write(x, greater);
        TALLY.due(less + " against " + greater, () -> x.order(first, second), -1);
        TALLY.due(greater + " against " + less, () -> x.order(second, first), 1);
    }

    private static void orderOfTheSame() {
        WideCounts x = new WideCounts();
        int[][] alike = {
            {x.value(0), x.add(x.value(3), x.value(-3))},
            {x.value(-6), x.times(x.value(2), x.value(-3))},
            {x.power(x.value(2), 62), x.value(1L << 62)},
            {Made.widest(x), Made.widest(x)},
            {Made.least(x), Made.least(x)},
            {x.factorial(5), x.binomial(120, 1)}
        };
        for (int[] pair : alike) {
            TALLY.due("order of two alike", () -> x.order(pair[0], pair[1]), 0);
            TALLY.due("order of two alike, turned", () -> x.order(pair[1], pair[0]), 0);
            TALLY.due("order of one and itself", () -> x.order(pair[0], pair[0]), 0);
        }
        TALLY.due("order of the least and the widest", () -> x.order(alike[4][0], alike[3][0]), -1);
        TALLY.due("order of the widest and the least", () -> x.order(alike[3][0], alike[4][0]), 1);
    }

    private static void orderOfUnknown() {
        WideCounts x = new WideCounts();
        x.value(3);
        for (int unknown : unknownBeside(1)) {
            TALLY.noSuchIndex("order(" + unknown + ", 0)", () -> x.order(unknown, 0));
            TALLY.noSuchIndex("order(0, " + unknown + ")", () -> x.order(0, unknown));
            TALLY.noSuchIndex("order(" + unknown + ", " + unknown + ")", () -> x.order(unknown, unknown));
        }
        TALLY.due("order(0, 0)", () -> x.order(0, 0), 0);
        TALLY.due("kept() after orders", x::kept, 1);
    }

    // Promise 10

    private static void lowestAndHighestDigit() {
        for (int zeros : new int[] {1, 8, 9, 10, 17, 18, 100, 480, 481}) {
            WideCounts x = new WideCounts();
            int round = x.power(x.value(10), zeros);
            int nines = x.add(round, x.value(-1));
            TALLY.due("the lowest digit of 10^" + zeros, () -> x.digit(round, 0), 0);
            TALLY.due("the highest but one of 10^" + zeros, () -> x.digit(round, zeros - 1), 0);
            TALLY.due("the highest digit of 10^" + zeros, () -> x.digit(round, zeros), 1);
            TALLY.due("the lowest digit of 10^" + zeros + " - 1", () -> x.digit(nines, 0), 9);
            TALLY.due("the highest digit of 10^" + zeros + " - 1", () -> x.digit(nines, zeros - 1), 9);
            TALLY.noSuchIndex("one more digit of 10^" + zeros + " - 1", () -> x.digit(nines, zeros));
        }
        WideCounts x = new WideCounts();
        int rising = x.value(9_876_543_210L);
        for (int i = 0; i < 10; i++) {
            int at = i;
            TALLY.due("digit " + i + " of 9876543210", () -> x.digit(rising, at), i);
        }
        int most = Made.widest(x);
        String digits = WIDEST.toString();
        for (int i : new int[] {0, 1, 8, 9, 240, 480, 481}) {
            TALLY.due("digit " + i + " of 2^1600 - 1", () -> x.digit(most, i), digits.charAt(digits.length() - 1 - i) - '0');
        }
    }

    private static void digitsBelowNought() {
        for (long v : new long[] {-1, -9, -10, -907, -1_000_000_000, Long.MIN_VALUE}) {
            WideCounts x = new WideCounts();
            x.value(v);
            String digits = big(v).abs().toString();
            for (int i = 0; i < digits.length(); i++) {
                int at = i;
                TALLY.due("digit " + i + " of " + v, () -> x.digit(0, at), digits.charAt(digits.length() - 1 - i) - '0');
            }
            TALLY.noSuchIndex("one more digit of " + v, () -> x.digit(0, digits.length()));
        }
        WideCounts x = new WideCounts();
        int least = Made.least(x);
        TALLY.due("the lowest digit of 1 - 2^1600", () -> x.digit(least, 0), WIDEST.mod(BigInteger.TEN).intValue());
        TALLY.due("the highest digit of 1 - 2^1600", () -> x.digit(least, 481), WIDEST.divide(BigInteger.TEN.pow(481)).intValue());
        TALLY.noSuchIndex("one more digit of 1 - 2^1600", () -> x.digit(least, 482));
    }

    private static void digitOfNought() {
        WideCounts x = new WideCounts();
        int minus = x.value(-7);
        int[] noughts = {x.value(0), x.add(minus, x.value(7)), x.times(minus, x.value(0)), x.over(x.value(3), minus), x.power(x.value(0), 5), x.binomial(3, 4), x.determinant(3)};
        for (int nought : noughts) {
            TALLY.due("digit 0 of 0", () -> x.digit(nought, 0), 0);
            for (int i : new int[] {1, 2, 9, 481, 482, -1, LEAST_INT, GREATEST_INT}) {
                TALLY.noSuchIndex("digit " + i + " of 0", () -> x.digit(nought, i));
            }
        }
    }

    private static void digitOfUnknown() {
        WideCounts x = new WideCounts();
        x.value(3);
        for (int unknown : unknownBeside(1)) {
            for (int i : new int[] {0, 1, -1, 482}) {
                TALLY.noSuchIndex("digit(" + unknown + ", " + i + ")", () -> x.digit(unknown, i));
            }
        }
        TALLY.due("digit(0, 0)", () -> x.digit(0, 0), 3);
        TALLY.due("kept() after digits", x::kept, 1);
    }

    private static void noSuchDigit() {
        WideCounts x = new WideCounts();
        int[] handles = {x.value(5), x.value(10), x.value(-99), x.value(Long.MAX_VALUE), x.power(x.value(10), 481), Made.widest(x)};
        int[] lengths = {1, 2, 2, 19, 482, 482};
        for (int at = 0; at < handles.length; at++) {
            int handle = handles[at];
            int length = lengths[at];
            TALLY.truth("the highest of " + length + " digits is not 0", x.digit(handle, length - 1) > 0, true);
            for (int i : new int[] {-1, -2, LEAST_INT, length, length + 1, length + 9, 482, 483, 1_600, GREATEST_INT}) {
                TALLY.noSuchIndex("digit " + i + " of " + length, () -> x.digit(handle, i));
            }
        }
    }

    // Promise 11

    private static void entryBecomes() {
        for (long v : new long[] {1, -1, Long.MAX_VALUE, Long.MIN_VALUE}) {
            WideCounts x = new WideCounts();
            for (int i = 0; i < 12; i++) {
                TALLY.truth("entry(" + i + ", " + i + ", " + v + ")", x.entry(i, i, v), true);
            }
            TALLY.makes("determinant(1) of " + v, x, () -> x.determinant(1), big(v));
            TALLY.makes("determinant(12) of " + v, x, () -> x.determinant(12), big(v).pow(12));
            TALLY.truth("entry(11, 11, 0)", x.entry(11, 11, 0), true);
            TALLY.makes("determinant(12) when an entry became 0", x, () -> x.determinant(12), BigInteger.ZERO);
            TALLY.truth("entry(11, 11, 0) once more", x.entry(11, 11, 0), true);
        }
        everyEntryIsItsOwn();
    }

    private static void everyEntryIsItsOwn() {
        BigInteger before = Model.determinantOf(Made.sensitiveTable(), 12);
        for (int at = 0; at < 144; at++) {
            WideCounts x = new WideCounts();
            long[][] table = Made.sensitiveTable();
            Made.enter(x, table);
            int i = at / 12;
            int j = at % 12;
            table[i][j] += 1 + at;
            TALLY.truth("entry(" + i + ", " + j + ", " + table[i][j] + ")", x.entry(i, j, table[i][j]), true);
            BigInteger after = Model.determinantOf(table, 12);
            TALLY.truth("entry(" + i + ", " + j + ") counts", after.equals(before), false);
            TALLY.makes("determinant(12) after it", x, () -> x.determinant(12), after);
        }
    }

    private static void noSuchRow() {
        for (int i : new int[] {-1, -12, 12, 13, 144, LEAST_INT, GREATEST_INT}) {
            WideCounts x = new WideCounts();
            long[][] table = Made.sensitiveTable();
            Made.enter(x, table);
            for (int j = 0; j < 12; j++) {
                TALLY.truth("entry(" + i + ", " + j + ", 5000)", x.entry(i, j, 5_000), false);
            }
            TALLY.makes("determinant(12) after it", x, () -> x.determinant(12), Model.determinantOf(table, 12));
        }
    }

    private static void noSuchColumn() {
        for (int j : new int[] {-1, -12, 12, 13, 144, LEAST_INT, GREATEST_INT}) {
            WideCounts x = new WideCounts();
            long[][] table = Made.sensitiveTable();
            Made.enter(x, table);
            for (int i = 0; i < 12; i++) {
                TALLY.truth("entry(" + i + ", " + j + ", 5000)", x.entry(i, j, 5_000), false);
            }
            TALLY.truth("entry(" + j + ", " + j + ", 5000)", x.entry(j, j, 5_000), false);
            TALLY.makes("determinant(12) after it", x, () -> x.determinant(12), Model.determinantOf(table, 12));
        }
    }

    // Promise 13

    private static void residueNotBelowNought() {
        long[] moduli = {1, 2, 3, 10, 1L << 25, 1L << 32, (1L << 62) + 1, Long.MAX_VALUE};
        for (long modulus : moduli) {
            for (int near = -2; near <= 2; near++) {
                for (int multiple = -2; multiple <= 2; multiple++) {
                    residueIs(big(modulus).multiply(big(multiple)).add(big(near)), modulus);
                }
            }
        }
    }

    private static void residueIs(BigInteger number, long modulus) {
        WideCounts x = new WideCounts();
        int handle = Made.write(x, number);
        long want = number.mod(big(modulus).abs()).longValueExact();
        TALLY.due("residue of " + number + " by " + modulus, () -> x.residue(handle, modulus), want);
    }

    private static void residueByEitherSign() {
        WideCounts x = new WideCounts();
        int plus = x.value(17);
        int minus = x.value(-17);
        int nought = x.value(0);
        TALLY.due("17 by 5", () -> x.residue(plus, 5), 2);
        TALLY.due("17 by -5", () -> x.residue(plus, -5), 2);
        TALLY.due("-17 by 5", () -> x.residue(minus, 5), 3);
        TALLY.due("-17 by -5", () -> x.residue(minus, -5), 3);
        for (long modulus : new long[] {1, -1, 17, -17}) {
            TALLY.due("17 by " + modulus, () -> x.residue(plus, modulus), 0);
            TALLY.due("-17 by " + modulus, () -> x.residue(minus, modulus), 0);
        }
        for (long modulus : new long[] {18, -18, Long.MAX_VALUE, -Long.MAX_VALUE}) {
            TALLY.due("17 by " + modulus, () -> x.residue(plus, modulus), 17);
            TALLY.due("-17 by " + modulus, () -> x.residue(minus, modulus), Math.abs(modulus) - 17);
            TALLY.due("0 by " + modulus, () -> x.residue(nought, modulus), 0);
        }
    }

    private static void residueOfTheWidest() {
        WideCounts x = new WideCounts();
        int most = Made.widest(x);
        int least = x.times(most, x.value(-1));
        for (long modulus : new long[] {1, 2, -3, 10, 33_554_432, 33_554_431, -1_000_000_007, 1L << 62, Long.MAX_VALUE, Long.MAX_VALUE - 1, -Long.MAX_VALUE}) {
            BigInteger amount = big(modulus).abs();
            TALLY.due("2^1600 - 1 by " + modulus, () -> x.residue(most, modulus), WIDEST.mod(amount).longValueExact());
            TALLY.due("1 - 2^1600 by " + modulus, () -> x.residue(least, modulus), WIDEST.negate().mod(amount).longValueExact());
        }
    }

    private static void residueOfUnknown() {
        WideCounts x = new WideCounts();
        x.value(3);
        for (int unknown : unknownBeside(1)) {
            for (long modulus : new long[] {1, -1, 0, 5, Long.MIN_VALUE}) {
                TALLY.noSuchIndex("residue(" + unknown + ", " + modulus + ")", () -> x.residue(unknown, modulus));
            }
        }
        TALLY.due("residue(0, 5)", () -> x.residue(0, 5), 3);
        TALLY.due("kept() after residues", x::kept, 1);
    }

    private static void residueByNought() {
        WideCounts x = new WideCounts();
        int[] handles = {x.value(0), x.value(1), x.value(-1), x.value(Long.MIN_VALUE), Made.widest(x), Made.least(x)};
        for (int handle : handles) {
            TALLY.noSuchQuotient("residue(" + handle + ", 0)", () -> x.residue(handle, 0));
            TALLY.due("residue(" + handle + ", 1)", () -> x.residue(handle, 1), 0);
        }
    }

    private static void residueByTheLeastLong() {
        BigInteger[] asMuch = {big(-1), TWO_TO_63.subtract(BigInteger.ONE), TWO_TO_63.add(BigInteger.ONE).negate(), WIDEST};
        for (BigInteger number : asMuch) {
            WideCounts x = new WideCounts();
            int handle = Made.write(x, number);
            TALLY.due(number + " by -2^63", () -> x.residue(handle, Long.MIN_VALUE), Long.MAX_VALUE);
        }
        BigInteger[] others = {BigInteger.ZERO, BigInteger.ONE, TWO_TO_63.negate(), TWO_TO_63, TWO_TO_63.add(BigInteger.ONE), TWO_TO_63.shiftLeft(1),
            TWO_TO_63.subtract(BigInteger.ONE).negate(), WIDEST.negate(), BigInteger.TWO.pow(1_599), BigInteger.TWO.pow(62), BigInteger.TWO.pow(62).negate()};
        for (BigInteger number : others) {
            residueIs(number, Long.MIN_VALUE);
        }
    }

    // Promise 14

    private static void howMany() {
        WideCounts x = new WideCounts();
        TALLY.due("kept() at first", x::kept, 0);
        for (int many = 1; many <= 160; many++) {
            x.value(many);
            TALLY.due("kept() with " + many, x::kept, many);
        }
        x.value(161);
        TALLY.due("kept() after one too many", x::kept, 160);
        WideCounts y = new WideCounts();
        y.value(2);
        y.order(0, 0);
        y.digit(0, 0);
        y.residue(0, 3);
        y.entry(0, 0, 1);
        y.entry(12, 0, 1);
        y.power(0, 1_600);
        y.power(0, -1);
        y.binomial(-1, 0);
        y.factorial(-1);
        y.determinant(13);
        Tally.answerOf(() -> y.add(0, 1));
        Tally.answerOf(() -> y.residue(0, 0));
        TALLY.due("kept() after calls that make nothing", y::kept, 1);
        TALLY.due("kept() asked again", y::kept, 1);
    }
}
