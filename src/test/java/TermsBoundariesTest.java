import java.math.BigInteger;
import java.util.function.ToLongFunction;

/** Each sentence of "What it is" and "Terms" that names a boundary case has a test of its own here. */
public final class TermsBoundariesTest {
    private static final Tally TALLY = new Tally("TermsBoundariesTest");

    /** A call that makes a number on an object made by startedObject. */
    private record Maker(String name, ToLongFunction<WideCounts> call, long made) {
    }

    /** A call with a handle that may not be known, the other handle (where there is one) being 0. */
    private interface HandleCall {
        long on(WideCounts x, int handle);
    }

    private static final Maker[] MAKERS = {
        new Maker("value(9)", x -> x.value(9), 9),
        new Maker("add(0, 1)", x -> x.add(0, 1), 2),
        new Maker("times(0, 1)", x -> x.times(0, 1), -24),
        new Maker("over(0, 1)", x -> x.over(0, 1), -1),
        new Maker("power(1, 3)", x -> x.power(1, 3), -64),
        new Maker("binomial(6, 2)", x -> x.binomial(6, 2), 15),
        new Maker("binomial(6, 7)", x -> x.binomial(6, 7), 0),
        new Maker("factorial(4)", x -> x.factorial(4), 24),
        new Maker("determinant(0)", x -> x.determinant(0), 1),
        new Maker("determinant(2)", x -> x.determinant(2), 35)
    };

    private static final String[] HANDLE_CALL_NAMES = {
        "add(0, it)", "add(it, 0)", "add(it, it)", "times(0, it)", "times(it, 0)", "times(it, it)",
        "over(0, it)", "over(it, 0)", "over(it, it)", "power(it, 0)", "power(it, 1)",
        "order(0, it)", "order(it, 0)", "order(it, it)", "digit(it, 0)", "residue(it, 5)"
    };

    private static final HandleCall[] HANDLE_CALLS = {
        (x, h) -> x.add(0, h), (x, h) -> x.add(h, 0), (x, h) -> x.add(h, h),
        (x, h) -> x.times(0, h), (x, h) -> x.times(h, 0), (x, h) -> x.times(h, h),
        (x, h) -> x.over(0, h), (x, h) -> x.over(h, 0), (x, h) -> x.over(h, h),
        (x, h) -> x.power(h, 0), (x, h) -> x.power(h, 1),
        (x, h) -> x.order(0, h), (x, h) -> x.order(h, 0), (x, h) -> x.order(h, h),
        (x, h) -> x.digit(h, 0), (x, h) -> x.residue(h, 5)
    };

    public static void main(String[] args) {
        TALLY.sentence("An object is used for at most 512 calls after it has been made", TermsBoundariesTest::theLastOf512Calls);
        TALLY.sentence("A NUMBER is kept for good", TermsBoundariesTest::keptForGood);
        TALLY.sentence("has a HANDLE: 0, 1, 2, .. in the order in which numbers came", TermsBoundariesTest::handlesInOrder);
        TALLY.sentence("at most 160 are kept", TermsBoundariesTest::atMost160);
        TALLY.sentence("TOO WIDE when its amount is 2^1600 or more", TermsBoundariesTest::tooWide);
        TALLY.sentence("its amount (itself without its sign)", TermsBoundariesTest::tooWideBelowNought);
        TALLY.sentence("A call that makes a number answers its handle", TermsBoundariesTest::answersItsHandle);
        TALLY.sentence("-1, making nothing, when 160 are kept already", TermsBoundariesTest::nothingWhenFull);
        TALLY.sentence("-1, making nothing, when .. the number would be TOO WIDE", TermsBoundariesTest::nothingWhenTooWide);
        TALLY.sentence("A handle is KNOWN when a number has it", TermsBoundariesTest::knownHandles);
        TALLY.sentence("What a call throws for is tested ahead of -1: when full", TermsBoundariesTest::throwsAheadOfFull);
        TALLY.sentence("What a call throws for is tested ahead of -1: when n is wrong", TermsBoundariesTest::throwsAheadOfWrongPower);
        TALLY.sentence("in the order in which it is told", TermsBoundariesTest::throwsInOrder);
        TALLY.sentence("a call that throws does nothing", TermsBoundariesTest::throwingDoesNothing);
        TALLY.sentence("THE TABLE has rows and columns 0 to 11", TermsBoundariesTest::rowsAndColumns);
        TALLY.sentence("all its entries are 0 at first", TermsBoundariesTest::entriesAtFirst);
        TALLY.end();
    }

    /** Keeps 6 as 0 and -4 as 1; the table begins with 5 3, 0 7. */
    private static WideCounts startedObject() {
        WideCounts x = new WideCounts();
        x.value(6);
        x.value(-4);
        x.entry(0, 0, 5);
        x.entry(0, 1, 3);
        x.entry(1, 1, 7);
        return x;
    }

    private static BigInteger big(long v) {
        return BigInteger.valueOf(v);
    }

    private static void holdsFillers(WideCounts x, int from, int to) {
        for (int i = from; i < to; i++) {
            int handle = i;
            long modulus = Long.MAX_VALUE;
            TALLY.due("number " + i, () -> x.residue(handle, modulus), Math.floorMod(Made.fillerOf(i), modulus));
        }
    }

    private static void theLastOf512Calls() {
        WideCounts x = new WideCounts();
        for (int call = 1; call <= 160; call++) {
            x.value(call);
        }
        for (int call = 161; call <= 500; call++) {
            x.value(0);
        }
        TALLY.due("call 501", () -> x.order(0, 159), -1);
        TALLY.due("call 502", () -> x.digit(159, 2), 1);
        TALLY.noSuchIndex("call 503", () -> x.digit(159, 3));
        TALLY.due("call 504", () -> x.residue(159, 7), 6);
        TALLY.noSuchQuotient("call 505", () -> x.residue(159, 0));
        TALLY.noSuchIndex("call 506", () -> x.add(0, 160));
        TALLY.due("call 507", () -> x.power(1, 2), -1);
        TALLY.truth("call 508", x.entry(11, 11, 1), true);
        TALLY.truth("call 509", x.entry(11, 12, 1), false);
        TALLY.due("call 510", () -> x.determinant(12), -1);
        TALLY.due("call 511", () -> x.residue(0, 7), 1);
        TALLY.due("call 512", x::kept, 160);
        WideCounts late = new WideCounts();
        for (int call = 1; call <= 511; call++) {
            late.kept();
        }
        TALLY.due("call 512, the first that makes a number", () -> late.factorial(240), 0);
    }

    private static void keptForGood() {
        WideCounts x = new WideCounts();
        BigInteger[] numbers = {BigInteger.ZERO, big(-7), Made.WIDEST, big(Long.MIN_VALUE)};
        int[] handles = {x.value(0), x.value(-7), Made.widest(x), x.value(Long.MIN_VALUE)};
        for (int a : handles) {
            for (int b : handles) {
                Tally.answerOf(() -> x.add(a, b));
                Tally.answerOf(() -> x.times(a, b));
                Tally.answerOf(() -> x.over(a, b));
                x.order(a, b);
            }
            x.power(a, 1);
            x.power(a, 1_000);
            x.digit(a, 0);
            Tally.answerOf(() -> x.digit(a, 1));
            Tally.answerOf(() -> x.digit(a, 481));
            x.residue(a, -12);
            Tally.answerOf(() -> x.residue(a, 0));
        }
        x.entry(0, 0, 8);
        x.determinant(12);
        x.binomial(1_600, 800);
        x.factorial(300);
        Made.fillTo(x, 160);
        x.value(1);
        for (int i = 0; i < handles.length; i++) {
            TALLY.holds(numbers[i] + " after calls of all kinds", x, handles[i], numbers[i]);
        }
    }

    private static void handlesInOrder() {
        WideCounts x = startedObject();
        int handle = 2;
        for (Maker maker : MAKERS) {
            TALLY.due(maker.name, () -> maker.call.applyAsLong(x), handle);
            handle++;
            TALLY.due("factorial(1000), which takes no handle", () -> x.factorial(1_000), -1);
            TALLY.noSuchIndex("add(0, 160), which takes no handle", () -> x.add(0, 160));
        }
        for (int again = 0; again < 3; again++) {
            TALLY.due("value(6) for the same number again", () -> x.value(6), handle);
            handle++;
        }
        for (int i = 0; i < MAKERS.length; i++) {
            int at = 2 + i;
            TALLY.due(MAKERS[i].name, () -> x.residue(at, 1_000), Math.floorMod(MAKERS[i].made, 1_000L));
        }
    }

    private static void atMost160() {
        for (Maker maker : MAKERS) {
            WideCounts x = startedObject();
            Made.fillTo(x, 159);
            TALLY.due(maker.name + " as the 160th", () -> maker.call.applyAsLong(x), 159);
            TALLY.due("kept() with 160", x::kept, 160);
            TALLY.due(maker.name + " as the 161st", () -> maker.call.applyAsLong(x), -1);
            TALLY.due("kept() after the 161st", x::kept, 160);
            TALLY.holds(maker.name + " as the 160th", x, 159, big(maker.made));
        }
    }

    private static void tooWide() {
        WideCounts x = new WideCounts();
        int one = x.value(1);
        int two = x.value(2);
        int half = x.power(two, 1_599);
        int belowHalf = x.add(half, x.value(-1));
        TALLY.makes("2^1600 - 1 as a sum", x, () -> x.add(half, belowHalf), Made.WIDEST);
        int widest = x.kept() - 1;
        TALLY.makesNothing("2^1600 as a sum", x, () -> x.add(widest, one));
        TALLY.makesNothing("2^1600 as a sum of two alike", x, () -> x.add(half, half));
        TALLY.makesNothing("2^1600 as a product", x, () -> x.times(half, two));
        TALLY.makesNothing("2^1600 as a power", x, () -> x.power(two, 1_600));
        TALLY.makesNothing("2^1600 + 1", x, () -> x.add(widest, two));
        TALLY.makesNothing("2^1601 - 2", x, () -> x.add(widest, widest));
    }

    private static void tooWideBelowNought() {
        WideCounts x = new WideCounts();
        int minusOne = x.value(-1);
        int minusTwo = x.value(-2);
        int half = x.power(minusTwo, 1_599);
        TALLY.holds("-2^1599", x, half, BigInteger.TWO.pow(1_599).negate());
        int least = Made.least(x);
        TALLY.holds("1 - 2^1600", x, least, Made.WIDEST.negate());
        TALLY.makesNothing("-2^1600 as a sum", x, () -> x.add(least, minusOne));
        TALLY.makesNothing("-2^1600 as a sum of two alike", x, () -> x.add(half, half));
        int two = x.value(2);
        TALLY.makesNothing("-2^1600 as a product", x, () -> x.times(half, two));
        TALLY.makesNothing("2^1600 as a product of two below 0", x, () -> x.times(half, minusTwo));
        TALLY.makesNothing("2^1600 as a power of -2", x, () -> x.power(minusTwo, 1_600));
        int cube = x.power(minusTwo, 533);
        TALLY.makes("(-2^533)^3", x, () -> x.power(cube, 3), BigInteger.TWO.pow(1_599).negate());
        int wider = x.power(minusTwo, 535);
        TALLY.makesNothing("(-2^535)^3", x, () -> x.power(wider, 3));
    }

    private static void answersItsHandle() {
        for (Maker maker : MAKERS) {
            WideCounts x = startedObject();
            TALLY.makes(maker.name, x, () -> maker.call.applyAsLong(x), big(maker.made));
            TALLY.makes(maker.name + " again", x, () -> maker.call.applyAsLong(x), big(maker.made));
        }
        WideCounts x = new WideCounts();
        TALLY.due("value(-1) of a new object, which is kept as 0", () -> x.value(-1), 0);
    }

    private static void nothingWhenFull() {
        WideCounts x = startedObject();
        Made.fillTo(x, 160);
        for (Maker maker : MAKERS) {
            TALLY.makesNothing(maker.name + " when full", x, () -> maker.call.applyAsLong(x));
        }
        TALLY.due("number 0", () -> x.order(0, 0), 0);
        TALLY.due("number 0", () -> x.residue(0, 1_000), 6);
        TALLY.due("number 1", () -> x.residue(1, 1_000), 996);
        holdsFillers(x, 2, 160);
    }

    private static void nothingWhenTooWide() {
        WideCounts x = new WideCounts();
        int widest = Made.widest(x);
        int before = x.kept();
        TALLY.due("the widest and the widest", () -> x.add(widest, widest), -1);
        TALLY.due("the widest squared", () -> x.times(widest, widest), -1);
        TALLY.due("the widest to the third", () -> x.power(widest, 3), -1);
        TALLY.due("the widest to the millionth", () -> x.power(widest, 1_000_000), -1);
        TALLY.due("binomial(4000, 2000)", () -> x.binomial(4_000, 2_000), -1);
        TALLY.due("factorial(4000)", () -> x.factorial(4_000), -1);
        TALLY.due("kept() after what is too wide", x::kept, before);
        TALLY.noSuchIndex("the handle that was not given", () -> x.order(before, before));
        TALLY.holds("the widest after what is too wide", x, widest, Made.WIDEST);
        TALLY.makes("value(12) after what is too wide", x, () -> x.value(12), big(12));
    }

    private static void knownHandles() {
        for (int kept : new int[] {1, 2, 3, 80, 159, 160}) {
            WideCounts x = new WideCounts();
            Made.fillTo(x, kept);
            TALLY.due("order of the first of " + kept, () -> x.order(0, 0), 0);
            TALLY.due("order of the last of " + kept, () -> x.order(kept - 1, kept - 1), 0);
            TALLY.due("the last of " + kept, () -> x.residue(kept - 1, Long.MAX_VALUE), Math.floorMod(Made.fillerOf(kept - 1), Long.MAX_VALUE));
            unknownHandles(x, kept);
            TALLY.due("kept() after handles not known", x::kept, kept);
            TALLY.due("add of the last of " + kept, () -> x.add(kept - 1, kept - 1), kept == 160 ? -1 : kept);
        }
        unknownHandles(new WideCounts(), 0);
    }

    private static void unknownHandles(WideCounts x, int kept) {
        for (int unknown : new int[] {-1, kept, kept + 1, 160, 161, Integer.MIN_VALUE, Integer.MAX_VALUE}) {
            if (unknown >= 0 && unknown < kept) {
                continue;
            }
            for (int i = 0; i < HANDLE_CALLS.length; i++) {
                HandleCall call = HANDLE_CALLS[i];
                TALLY.noSuchIndex(HANDLE_CALL_NAMES[i] + " with " + unknown + " of " + kept, () -> call.on(x, unknown));
            }
        }
    }

    private static void throwsAheadOfFull() {
        WideCounts x = new WideCounts();
        x.value(0);
        Made.fillTo(x, 160);
        for (int unknown : new int[] {-1, 160, Integer.MIN_VALUE, Integer.MAX_VALUE}) {
            for (int i = 0; i < HANDLE_CALLS.length; i++) {
                HandleCall call = HANDLE_CALLS[i];
                TALLY.noSuchIndex(HANDLE_CALL_NAMES[i] + " with " + unknown + " when full", () -> call.on(x, unknown));
            }
        }
        TALLY.noSuchQuotient("over(159, 0), by 0 when full", () -> x.over(159, 0));
        TALLY.noSuchQuotient("over(0, 0), by 0 when full", () -> x.over(0, 0));
        TALLY.due("over(0, 159) when full", () -> x.over(0, 159), -1);
    }

    private static void throwsAheadOfWrongPower() {
        WideCounts x = new WideCounts();
        x.value(1);
        for (int n : new int[] {-1, 1_000_001, Integer.MIN_VALUE, Integer.MAX_VALUE}) {
            for (int unknown : new int[] {-1, 1, 160}) {
                TALLY.noSuchIndex("power(" + unknown + ", " + n + ")", () -> x.power(unknown, n));
            }
            TALLY.due("power(0, " + n + ")", () -> x.power(0, n), -1);
        }
    }

    private static void throwsInOrder() {
        WideCounts x = new WideCounts();
        int nought = x.value(0);
        for (int unknown : new int[] {-1, 1, 160, Integer.MIN_VALUE, Integer.MAX_VALUE}) {
            TALLY.noSuchIndex("over(" + unknown + ", by 0)", () -> x.over(unknown, nought));
            TALLY.noSuchIndex("over(0, " + unknown + ")", () -> x.over(nought, unknown));
            TALLY.noSuchIndex("residue(" + unknown + ", 0)", () -> x.residue(unknown, 0));
        }
        TALLY.noSuchQuotient("over(0, by 0)", () -> x.over(nought, nought));
        TALLY.noSuchQuotient("residue(0, 0)", () -> x.residue(nought, 0));
    }

    private static void throwingDoesNothing() {
        doesNothing("add(0, 2)", x -> x.add(0, 2));
        doesNothing("add(2, 0)", x -> x.add(2, 0));
        doesNothing("times(1, -1)", x -> x.times(1, -1));
        doesNothing("times(-1, 1)", x -> x.times(-1, 1));
        doesNothing("over(2, 1)", x -> x.over(2, 1));
        doesNothing("over(1, 2)", x -> x.over(1, 2));
        doesNothing("over(1, by 0)", x -> x.over(1, 0));
        doesNothing("power(2, 2)", x -> x.power(2, 2));
        doesNothing("order(0, 2)", x -> x.order(0, 2));
        doesNothing("order(2, 0)", x -> x.order(2, 0));
        doesNothing("digit(2, 0)", x -> x.digit(2, 0));
        doesNothing("digit(1, -1)", x -> x.digit(1, -1));
        doesNothing("digit(1, 19)", x -> x.digit(1, 19));
        doesNothing("digit(1, 482)", x -> x.digit(1, 482));
        doesNothing("residue(2, 3)", x -> x.residue(2, 3));
        doesNothing("residue(1, 0)", x -> x.residue(1, 0));
    }

    private static void doesNothing(String name, ToLongFunction<WideCounts> call) {
        WideCounts x = new WideCounts();
        x.value(0);
        x.value(Long.MIN_VALUE);
        long[][] table = Made.sensitiveTable();
        Made.enter(x, table);
        TALLY.truth(name + " throws", Tally.answerOf(() -> call.applyAsLong(x)).thrown() != null, true);
        TALLY.due("kept() after " + name, x::kept, 2);
        TALLY.holds("the first after " + name, x, 0, BigInteger.ZERO);
        TALLY.holds("the second after " + name, x, 1, big(Long.MIN_VALUE));
        TALLY.makes("determinant(12) after " + name, x, () -> x.determinant(12), Model.determinantOf(table, 12));
        TALLY.makes("value(-5) after " + name, x, () -> x.value(-5), big(-5));
    }

    private static void rowsAndColumns() {
        for (int i = 0; i < 12; i++) {
            for (int j = 0; j < 12; j++) {
                WideCounts x = new WideCounts();
                TALLY.truth("entry(" + i + ", " + j + ", 3)", x.entry(i, j, 3), true);
            }
            WideCounts x = new WideCounts();
            TALLY.truth("entry(" + i + ", 12, 3)", x.entry(i, 12, 3), false);
            TALLY.truth("entry(12, " + i + ", 3)", x.entry(12, i, 3), false);
            TALLY.truth("entry(" + i + ", -1, 3)", x.entry(i, -1, 3), false);
            TALLY.truth("entry(-1, " + i + ", 3)", x.entry(-1, i, 3), false);
        }
    }

    /** With 1 in each other row and column once, the determinant is the entry or its opposite. */
    private static void entriesAtFirst() {
        for (int i = 0; i < 12; i++) {
            for (int j = 0; j < 12; j++) {
                WideCounts x = new WideCounts();
                for (int step = 1; step < 12; step++) {
                    x.entry((i + step) % 12, (j + step) % 12, 1);
                }
                x.value(0);
                x.determinant(12);
                TALLY.due("entry " + i + ", " + j + " against 0", () -> x.order(1, 0), 0);
                x.entry(i, j, 4);
                x.determinant(12);
                TALLY.due("the amount of entry " + i + ", " + j, () -> x.digit(2, 0), 4);
            }
        }
    }
}
