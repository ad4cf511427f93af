import java.math.BigInteger;

/** Numbers and tables that the tests make on an object before they ask. */
final class Made {
    static final BigInteger WIDEST = Model.TOO_WIDE.subtract(BigInteger.ONE);

    private Made() {
    }

    /** Makes 2^n as a number and answers its handle. */
    static int twoTo(WideCounts x, int n) {
        return x.power(x.value(2), n);
    }

    /** Makes 2^1600 - 1 and answers its handle. */
    static int widest(WideCounts x) {
        int half = twoTo(x, 1599);
        int belowHalf = x.add(half, x.value(-1));
        return x.add(half, belowHalf);
    }

    /** Makes 1 - 2^1600 and answers its handle. */
    static int least(WideCounts x) {
        return x.times(widest(x), x.value(-1));
    }

    /** Makes any number from parts of 62 bits and answers its handle; an object has room for two of the widest. */
    static int write(WideCounts x, BigInteger number) {
        BigInteger amount = number.abs();
        int base = x.value(1L << 62);
        int at = amount.bitLength() / 62;
        int handle = x.value(part(amount, at));
        for (at--; at >= 0; at--) {
            handle = x.add(x.times(handle, base), x.value(part(amount, at)));
        }
        return number.signum() < 0 ? x.times(handle, x.value(-1)) : handle;
    }

    private static long part(BigInteger amount, int at) {
        return amount.shiftRight(62 * at).longValue() & (1L << 62) - 1;
    }

    /** Makes numbers until so many are kept; the number with the handle i is fillerOf(i). */
    static void fillTo(WideCounts x, int kept) {
        for (int i = x.kept(); i < kept; i++) {
            x.value(fillerOf(i));
        }
    }

    static long fillerOf(int handle) {
        return handle % 2 == 0 ? 1_000_003L * handle + 7 : -999_983L * handle - 7;
    }

    /** A table of which every minor that leaves out one row and one column is not 0: a change of any entry shows. */
    static long[][] sensitiveTable() {
        long[][] table = new long[12][12];
        long next = 20_261_116;
        for (int i = 0; i < 12; i++) {
            for (int j = 0; j < 12; j++) {
                next = next * 1_103_515_245 + 12_345 & 0x7FFF_FFFF;
                table[i][j] = next % 1_999 - 999;
            }
        }
        return table;
    }

    static void enter(WideCounts x, long[][] table) {
        for (int i = 0; i < 12; i++) {
            for (int j = 0; j < 12; j++) {
                x.entry(i, j, table[i][j]);
            }
        }
    }
}
