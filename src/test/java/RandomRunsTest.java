import java.util.Random;
import java.util.function.LongSupplier;

/** Long runs of calls, drawn with fixed seeds, on the class and on the model side by side. */
public final class RandomRunsTest {
    private static final int CALLS = 512;
    private static final long[] EDGES = {
        0, 1, -1, 2, -2, 10, Long.MAX_VALUE, Long.MIN_VALUE, Long.MIN_VALUE + 1, 1L << 25, (1L << 25) - 1, -(1L << 50), 1L << 32, -(1L << 31)
    };

    private final Tally tally;
    private final int seed;
    private final Random random;
    private final WideCounts x = new WideCounts();
    private final Model model = new Model();
    // How often numbers are made: runs that seldom make any stay under 160 to their end.
    private final int makingOfTen;

    private RandomRunsTest(Tally tally, int seed) {
        this.tally = tally;
        this.seed = seed;
        this.random = new Random(seed);
        this.makingOfTen = 2 + seed % 7;
    }

    public static void main(String[] args) {
        Tally tally = new Tally("RandomRunsTest");
        for (int seed = 0; seed < 400; seed++) {
            new RandomRunsTest(tally, seed).run();
        }
        tally.end();
    }

    private void run() {
        for (int i = 0; i < CALLS; i++) {
            if (random.nextInt(10) < makingOfTen) {
                makingCall();
            } else {
                askingCall();
            }
        }
    }

    private void check(String call, LongSupplier got, LongSupplier want) {
        tally.same("seed " + seed + ", " + call, Tally.answerOf(got), Tally.answerOf(want));
    }

    private void makingCall() {
        int a = handle();
        int b = handle();
        switch (random.nextInt(10)) {
            case 0 -> {
                long v = number();
                check("value(" + v + ")", () -> x.value(v), () -> model.value(v));
            }
            case 1, 2 -> check("add(" + a + ", " + b + ")", () -> x.add(a, b), () -> model.add(a, b));
            case 3, 4 -> check("times(" + a + ", " + b + ")", () -> x.times(a, b), () -> model.times(a, b));
            case 5, 6 -> check("over(" + a + ", " + b + ")", () -> x.over(a, b), () -> model.over(a, b));
            case 7 -> {
                int n = small(30, 1_700, 1_000_002);
                check("power(" + a + ", " + n + ")", () -> x.power(a, n), () -> model.power(a, n));
            }
            case 8 -> {
                int n = small(40, 1_700, 4_003);
                if (random.nextBoolean()) {
                    int k = random.nextInt(4) == 0 ? small(5, 100, 4_000) : random.nextInt(Math.max(1, n + 1));
                    check("binomial(" + n + ", " + k + ")", () -> x.binomial(n, k), () -> model.binomial(n, k));
                } else {
                    int m = random.nextInt(10) == 0 ? n : n % 260;
                    check("factorial(" + m + ")", () -> x.factorial(m), () -> model.factorial(m));
                }
            }
            default -> {
                int size = random.nextInt(20) == 0 ? small(3, 13, 20) : random.nextInt(7);
                check("determinant(" + size + ")", () -> x.determinant(size), () -> model.determinant(size));
            }
        }
    }

    private void askingCall() {
        int a = handle();
        int b = handle();
        switch (random.nextInt(6)) {
            case 0 -> check("order(" + a + ", " + b + ")", () -> x.order(a, b), () -> model.order(a, b));
            case 1 -> {
                int i = small(20, 482, 484);
                check("digit(" + a + ", " + i + ")", () -> x.digit(a, i), () -> model.digit(a, i));
            }
            case 2 -> {
                int i = random.nextInt(14) - 1;
                int j = random.nextInt(14) - 1;
                long v = number();
                check("entry(" + i + ", " + j + ", " + v + ")", () -> x.entry(i, j, v) ? 1 : 0, () -> model.entry(i, j, v) ? 1 : 0);
            }
            case 3, 4 -> {
                long modulus = number();
                check("residue(" + a + ", " + modulus + ")", () -> x.residue(a, modulus), () -> model.residue(a, modulus));
            }
            default -> check("kept()", x::kept, model::kept);
        }
    }

    /** Mostly a known one, late ones above all; now and then one that is not. */
    private int handle() {
        int known = model.kept();
        return switch (random.nextInt(24)) {
            case 0 -> known;
            case 1 -> random.nextBoolean() ? -1 : random.nextInt();
            case 2, 3, 4, 5, 6, 7, 8 -> known - 1 - random.nextInt(1 + Math.min(4, Math.max(0, known - 1)));
            default -> known == 0 ? 0 : random.nextInt(known);
        };
    }

    private long number() {
        return switch (random.nextInt(4)) {
            case 0 -> EDGES[random.nextInt(EDGES.length)];
            case 1 -> random.nextInt(41) - 20;
            case 2 -> random.nextLong() >> random.nextInt(64);
            default -> random.nextLong();
        };
    }

    private int small(int usual, int seldom, int rare) {
        return switch (random.nextInt(12)) {
            case 0 -> random.nextInt(rare);
            case 1, 2 -> random.nextInt(seldom);
            case 3 -> random.nextInt(3) == 0 ? random.nextInt() : -1;
            default -> random.nextInt(usual);
        };
    }
}
