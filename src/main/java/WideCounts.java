/** Whole numbers of any sign, up to 1,600 bits each, kept by handles. */
public final class WideCounts {
    private static final int NOTHING = -1;
    private static final int MOST_KEPT = 160;
    private static final int TABLE_SIDE = 12;
    private static final int MOST_POWER = 1_000_000;
    private static final int MOST_CHOICES = 4_000;

    // 64 limbs of 25 bits are 1,600 bits to the bit, so TOO WIDE is a 65th limb;
    // and 64 products of two limbs add up in a long without wrapping round.
    private static final int LIMB_BITS = 25;
    private static final int LIMB_MASK = (1 << LIMB_BITS) - 1;
    private static final long LIMB_BASE = 1L << LIMB_BITS;
    private static final int MOST_LIMBS = 64;
    private static final int MOST_BITS = MOST_LIMBS * LIMB_BITS;
    private static final int WORK_LIMBS = MOST_LIMBS + 1;
    private static final int LONG_LIMBS = 3;

    // By Hadamard's bound a determinant of 12 rows of longs stays under 2^778, which is
    // 32 limbs; a division may write one limb of 0 above its quotient.
    private static final int CELL_LIMBS = 34;

    // 2^1600 - 1 has 482 digits.
    private static final int MOST_DIGITS = 482;
    private static final int DIGITS_AT_ONCE = 9;
    private static final int TEN_TO_DIGITS_AT_ONCE = 1_000_000_000;

    private final Whole[] numbers = new Whole[MOST_KEPT];
    private int count = 0;
    private final long[][] table = new long[TABLE_SIDE][TABLE_SIDE];
    private final Whole result = new Whole(WORK_LIMBS);
    private final Whole spare = new Whole(WORK_LIMBS);
    private final Divider divider = new Divider();
    // Made by the first determinant only: its cells are by far the most that an object holds.
    private Elimination elimination = null;

    public WideCounts() {
    }

    public int value(long v) {
        if (isFull()) {
            return NOTHING;
        }
        result.setLong(v);
        return keep(result);
    }

    public int add(int a, int b) throws ArrayIndexOutOfBoundsException {
        Whole first = known(a);
        Whole second = known(b);
        if (isFull()) {
            return NOTHING;
        }
        result.setSum(first, second, second.negative);
        return keep(result);
    }

    public int times(int a, int b) throws ArrayIndexOutOfBoundsException {
        Whole first = known(a);
        Whole second = known(b);
        if (isFull() || !result.setProduct(first, second)) {
            return NOTHING;
        }
        return keep(result);
    }

    public int over(int a, int b) throws ArrayIndexOutOfBoundsException, ArithmeticException {
        Whole first = known(a);
        Whole second = known(b);
        if (second.isZero()) {
            throw new ArithmeticException("the divisor is 0");
        }
        if (isFull()) {
            return NOTHING;
        }
        divider.divide(first, second, result);
        return keep(result);
    }

    public int power(int a, int n) throws ArrayIndexOutOfBoundsException {
        Whole base = known(a);
        if (n < 0 || n > MOST_POWER || isFull()) {
            return NOTHING;
        }
        result.setLong(1);
        // From the highest bit of n down no power on the way is wider than the last one,
        // so the first that is TOO WIDE settles the answer.
        for (int bit = highestBit(n); bit >= 0; bit--) {
            if (!spare.setProduct(result, result)) {
                return NOTHING;
            }
            if ((n >> bit & 1) == 0) {
                result.copyFrom(spare);
            } else if (!result.setProduct(spare, base)) {
                return NOTHING;
            }
        }
        return keep(result);
    }

    public int binomial(int n, int k) {
        if (n < 0 || n > MOST_CHOICES || isFull()) {
            return NOTHING;
        }
        result.setLong(k < 0 || k > n ? 0 : 1);
        // Up to the middle the ways to choose i of n only grow with i, so one that is
        // TOO WIDE stays so; every division leaves no rest.
        int steps = Math.min(k, n - k);
        for (int i = 1; i <= steps && result.fits(); i++) {
            result.multiplyBy(n - i + 1);
            result.divideBy(i);
        }
        return keep(result);
    }

    public int factorial(int n) {
        // The factors from 2 up give a bit each at least: above 1,600 it is surely TOO WIDE.
        if (n < 0 || n > MOST_BITS || isFull()) {
            return NOTHING;
        }
        result.setLong(1);
        for (int i = 2; i <= n && result.fits(); i++) {
            result.multiplyBy(i);
        }
        return keep(result);
    }

    public int order(int a, int b) throws ArrayIndexOutOfBoundsException {
        Whole first = known(a);
        Whole second = known(b);
        if (first.negative != second.negative) {
            return first.negative ? -1 : 1;
        }
        int byAmount = first.compareAmount(second);
        return first.negative ? -byAmount : byAmount;
    }

    public int digit(int a, int i) throws ArrayIndexOutOfBoundsException {
        Whole number = known(a);
        if (i < 0 || i >= MOST_DIGITS) {
            throw new ArrayIndexOutOfBoundsException("no such digit");
        }
        result.copyFrom(number);
        result.dropDigits(i);
        if (i > 0 && result.isZero()) {
            throw new ArrayIndexOutOfBoundsException("no such digit");
        }
        return result.divideBy(10);
    }

    public boolean entry(int i, int j, long v) {
        if (i < 0 || i >= TABLE_SIDE || j < 0 || j >= TABLE_SIDE) {
            return false;
        }
        table[i][j] = v;
        return true;
    }

    public int determinant(int size) {
        if (size < 0 || size > TABLE_SIDE || isFull()) {
            return NOTHING;
        }
        if (size == 0) {
            result.setLong(1);
            return keep(result);
        }
        if (elimination == null) {
            elimination = new Elimination(divider);
        }
        elimination.solve(table, size, result);
        return keep(result);
    }

    public long residue(int a, long modulus) throws ArrayIndexOutOfBoundsException, ArithmeticException {
        Whole number = known(a);
        if (modulus == 0) {
            throw new ArithmeticException("the modulus is 0");
        }
        // Below 0 there is room for every modulus: -2^63 has no amount that is a long.
        long bound = modulus < 0 ? modulus : -modulus;
        long rest = number.restBelowZero(bound);
        if (rest == 0) {
            return 0;
        }
        return number.negative ? rest - bound : -rest;
    }

    public int kept() {
        return count;
    }

    private boolean isFull() {
        return count >= MOST_KEPT;
    }

    private Whole known(int handle) {
        if (handle < 0 || handle >= count) {
            throw new ArrayIndexOutOfBoundsException("no number has this handle");
        }
        return numbers[handle];
    }

    private int keep(Whole number) {
        if (isFull() || !number.fits()) {
            return NOTHING;
        }
        Whole own = new Whole(number.length);
        own.copyFrom(number);
        numbers[count] = own;
        count++;
        return count - 1;
    }

    private static int highestBit(int n) {
        return 31 - Integer.numberOfLeadingZeros(n);
    }

    /** A number as its amount, in limbs with the lowest first, and its sign. */
    private static final class Whole {
        private final int[] limbs;
        // How many limbs are in use: the highest of them is not 0, and 0 has none.
        private int length = 0;
        // Never true for 0.
        private boolean negative = false;

        Whole(int room) {
            limbs = new int[Math.max(0, room)];
        }

        boolean isZero() {
            return length == 0;
        }

        boolean fits() {
            return length <= MOST_LIMBS;
        }

        private int limbAt(int i) {
            return i >= 0 && i < length ? limbs[i] : 0;
        }

        private void finish(int top, boolean sign) {
            length = top;
            while (length > 0 && limbs[length - 1] == 0) {
                length--;
            }
            negative = sign && length > 0;
        }

        void setLong(long v) {
            int top = Math.min(LONG_LIMBS, limbs.length);
            // The amount of -2^63 wraps round to itself; shifted without its sign it is 2^63.
            long amount = v < 0 ? -v : v;
            for (int i = 0; i < top; i++) {
                limbs[i] = (int) (amount & LIMB_MASK);
                amount >>>= LIMB_BITS;
            }
            finish(top, v < 0);
        }

        void copyFrom(Whole other) {
            int top = Math.min(other.length, limbs.length);
            for (int i = 0; i < top; i++) {
                limbs[i] = other.limbs[i];
            }
            finish(top, other.negative);
        }

        void negate() {
            negative = !negative && length > 0;
        }

        int compareAmount(Whole other) {
            if (length != other.length) {
                return length < other.length ? -1 : 1;
            }
            for (int i = length - 1; i >= 0; i--) {
                if (limbs[i] != other.limbs[i]) {
                    return limbs[i] < other.limbs[i] ? -1 : 1;
                }
            }
            return 0;
        }

        /** The sum, b taken with the sign that is given: so it serves for differences too. */
        void setSum(Whole a, Whole b, boolean signOfB) {
            if (a.negative == signOfB) {
                setAmounts(a, b, 1, signOfB);
            } else if (a.compareAmount(b) >= 0) {
                setAmounts(a, b, -1, a.negative);
            } else {
                setAmounts(b, a, -1, signOfB);
            }
        }

        private void setAmounts(Whole a, Whole b, int factorOfB, boolean sign) {
            int top = Math.min(Math.max(a.length, b.length) + 1, limbs.length);
            int carry = 0;
            for (int i = 0; i < top; i++) {
                int sum = a.limbAt(i) + factorOfB * b.limbAt(i) + carry;
                limbs[i] = sum & LIMB_MASK;
                carry = sum >> LIMB_BITS;
            }
            finish(top, sign);
        }

        /** False when the product is TOO WIDE. Neither a nor b may be this object. */
        boolean setProduct(Whole a, Whole b) {
            int columns = a.length + b.length;
            // Two numbers of m and n limbs have a product of m + n - 1 limbs at least.
            if (columns > WORK_LIMBS || columns > limbs.length) {
                return false;
            }
            long carry = 0;
            for (int column = 0; column < columns; column++) {
                int last = Math.min(column, a.length - 1);
                for (int i = Math.max(0, column - b.length + 1); i <= last; i++) {
                    carry += (long) a.limbs[i] * b.limbs[column - i];
                }
                limbs[column] = (int) (carry & LIMB_MASK);
                carry >>= LIMB_BITS;
            }
            finish(columns, a.negative != b.negative);
            return fits();
        }

        void multiplyBy(int factor) {
            int top = Math.min(length + 1, limbs.length);
            long carry = 0;
            for (int i = 0; i < top; i++) {
                carry += (long) limbAt(i) * factor;
                limbs[i] = (int) (carry & LIMB_MASK);
                carry >>= LIMB_BITS;
            }
            finish(top, negative);
        }

        /** Leaves the quotient here and answers the rest of the amount. */
        int divideBy(int divisor) {
            if (divisor < 1) {
                return 0;
            }
            long rest = 0;
            for (int i = length - 1; i >= 0; i--) {
                long part = rest << LIMB_BITS | limbs[i];
                limbs[i] = (int) (part / divisor);
                rest = part % divisor;
            }
            finish(length, negative);
            return (int) rest;
        }

        void dropDigits(int digits) {
            for (int i = 0; i < digits / DIGITS_AT_ONCE; i++) {
                divideBy(TEN_TO_DIGITS_AT_ONCE);
            }
            for (int i = 0; i < digits % DIGITS_AT_ONCE; i++) {
                divideBy(10);
            }
        }

        /** The rest of the amount by a modulus, both written below 0: it is above the bound and at most 0. */
        long restBelowZero(long bound) {
            long rest = 0;
            for (int i = length - 1; i >= 0; i--) {
                for (int bit = LIMB_BITS - 1; bit >= 0; bit--) {
                    // Doubling by way of the gap to the bound never leaves the longs.
                    long gap = bound - rest;
                    rest = rest <= gap ? rest - gap : rest + rest;
                    rest -= limbs[i] >> bit & 1;
                    if (rest == bound) {
                        rest = 0;
                    }
                }
            }
            return rest;
        }
    }

    /** Long division, limb by limb (Knuth's algorithm D). */
    private static final class Divider {
        private final int[] rest = new int[WORK_LIMBS + 1];
        private final int[] divisor = new int[WORK_LIMBS + 1];

        /** The quotient towards 0. b is not 0. */
        void divide(Whole a, Whole b, Whole quotient) {
            int top = a.length - b.length + 1;
            if (b.isZero() || top < 1 || top > quotient.limbs.length || a.length > WORK_LIMBS) {
                quotient.setLong(0);
                return;
            }
            boolean sign = a.negative != b.negative;
            if (b.length == 1) {
                quotient.copyFrom(a);
                quotient.divideBy(b.limbs[0]);
                quotient.finish(quotient.length, sign);
                return;
            }
            // A divisor whose highest bit is set keeps every guess at a limb within 2 of it.
            int shift = LIMB_BITS - 1 - highestBit(b.limbs[b.length - 1]);
            shiftInto(divisor, b, shift);
            shiftInto(rest, a, shift);
            for (int at = top - 1; at >= 0; at--) {
                quotient.limbs[at] = nextLimb(at, b.length);
            }
            quotient.finish(top, sign);
        }

        private static void shiftInto(int[] target, Whole number, int shift) {
            long carry = 0;
            for (int i = 0; i <= number.length && i < target.length; i++) {
                carry |= (long) number.limbAt(i) << shift;
                target[i] = (int) (carry & LIMB_MASK);
                carry >>= LIMB_BITS;
            }
        }

        private int nextLimb(int at, int size) {
            long guess = guessLimb(at, size);
            if (takeAway(at, size, guess)) {
                return (int) guess;
            }
            giveBack(at, size);
            return (int) guess - 1;
        }

        /** The limb that is due, or one more. */
        private long guessLimb(int at, int size) {
            long lead = divisor[size - 1];
            if (lead < 1) {
                return 0;
            }
            long high = (long) rest[at + size] << LIMB_BITS | rest[at + size - 1];
            long guess = high / lead;
            long left = high - guess * lead;
            for (int tries = 0; tries < 2 && left < LIMB_BASE; tries++) {
                long next = left << LIMB_BITS | rest[at + size - 2];
                if (guess < LIMB_BASE && guess * divisor[size - 2] <= next) {
                    break;
                }
                guess--;
                left += lead;
            }
            return guess;
        }

        /** False when the guess was one too many. */
        private boolean takeAway(int at, int size, long guess) {
            long carry = 0;
            for (int i = 0; i < size; i++) {
                carry += rest[at + i] - guess * divisor[i];
                rest[at + i] = (int) (carry & LIMB_MASK);
                carry >>= LIMB_BITS;
            }
            // The limb on top is not written back: no later step looks at it.
            return carry + rest[at + size] >= 0;
        }

        private void giveBack(int at, int size) {
            int carry = 0;
            for (int i = 0; i < size; i++) {
                carry += rest[at + i] + divisor[i];
                rest[at + i] = carry & LIMB_MASK;
                carry >>= LIMB_BITS;
            }
        }
    }

    /** Elimination without fractions (Bareiss): every cell is a minor of the table at every step. */
    private static final class Elimination {
        private final Whole[] cells = new Whole[TABLE_SIDE * TABLE_SIDE];
        // Two minors of 11 rows have a product under 2^1427: it fits a work number.
        private final Whole first = new Whole(WORK_LIMBS);
        private final Whole second = new Whole(WORK_LIMBS);
        private final Divider divider;

        Elimination(Divider divider) {
            this.divider = divider;
            for (int i = 0; i < cells.length; i++) {
                cells[i] = new Whole(CELL_LIMBS);
            }
        }

        /** The determinant of the first rows and columns, 1 .. 12 of them, goes into the answer. */
        void solve(long[][] table, int size, Whole answer) {
            load(table, size);
            boolean turned = false;
            for (int step = 0; step < size; step++) {
                int row = pivotRow(step, size);
                if (row < 0) {
                    answer.setLong(0);
                    return;
                }
                if (row != step) {
                    swapRows(row, step, size);
                    turned = !turned;
                }
                clearBelow(step, size);
            }
            answer.copyFrom(cell(size - 1, size - 1));
            if (turned) {
                answer.negate();
            }
        }

        private Whole cell(int row, int column) {
            return cells[row * TABLE_SIDE + column];
        }

        private void load(long[][] table, int size) {
            for (int row = 0; row < size; row++) {
                for (int column = 0; column < size; column++) {
                    cell(row, column).setLong(table[row][column]);
                }
            }
        }

        private int pivotRow(int step, int size) {
            for (int row = step; row < size; row++) {
                if (!cell(row, step).isZero()) {
                    return row;
                }
            }
            return -1;
        }

        private void swapRows(int row, int other, int size) {
            for (int column = 0; column < size; column++) {
                Whole moved = cell(row, column);
                cells[row * TABLE_SIDE + column] = cell(other, column);
                cells[other * TABLE_SIDE + column] = moved;
            }
        }

        private void clearBelow(int step, int size) {
            for (int row = step + 1; row < size; row++) {
                for (int column = step + 1; column < size; column++) {
                    reduce(row, column, step);
                }
            }
        }

        private void reduce(int row, int column, int step) {
            Whole target = cell(row, column);
            first.setProduct(target, cell(step, step));
            second.setProduct(cell(row, step), cell(step, column));
            first.setSum(first, second, !second.negative);
            if (step == 0) {
                target.copyFrom(first);
            } else {
                divider.divide(first, cell(step - 1, step - 1), target);
            }
        }
    }
}
