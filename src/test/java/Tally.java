import java.math.BigInteger;
import java.util.function.LongSupplier;

/** Counts and prints the answers that are not the ones that are due. */
final class Tally {
    /** What a call answered: a number, or the class of what it threw. */
    record Answer(long number, Class<?> thrown) {
        @Override
        public String toString() {
            return thrown == null ? Long.toString(number) : "throws." + thrown.getSimpleName();
        }
    }

    /** So many primes under 2^63 that their product is above 2^1601: their residues tell a number wholly. */
    private static final long[] PRIMES = primesBelowTwoTo63(26);

    private final String name;
    private String sentence = "";
    private int asked = 0;
    private int wrong = 0;

    Tally(String name) {
        this.name = name;
    }

    static Answer answerOf(LongSupplier call) {
        try {
            return new Answer(call.getAsLong(), null);
        } catch (RuntimeException e) {
            return new Answer(0, thrownByTheMachine(e) ? VirtualMachineError.class : e.getClass());
        }
    }

    /** The machine's own exceptions are of the very classes that the document names: only their texts tell. */
    private static boolean thrownByTheMachine(RuntimeException e) {
        String text = e.getMessage();
        return text != null && (text.startsWith("Index ") || text.equals("/ by zero") || text.startsWith("Array index"));
    }

    /** A test that stands for one sentence of the document: what goes wrong in it is told with the sentence. */
    void sentence(String words, Runnable test) {
        int before = asked;
        sentence = "\"" + words + "\": ";
        due("the calls that lead up to the answers", () -> {
            test.run();
            return 0;
        }, 0);
        truth("asks something", asked > before + 1, true);
        sentence = "";
    }

    void same(String call, Answer got, Answer want) {
        asked++;
        if (!got.equals(want)) {
            wrong++;
            System.out.println(name + ": " + sentence + call + " answered " + got + ", due is " + want);
        }
    }

    void due(String call, LongSupplier got, long want) {
        same(call, answerOf(got), new Answer(want, null));
    }

    void truth(String call, boolean got, boolean want) {
        due(call, () -> got ? 1 : 0, want ? 1 : 0);
    }

    void noSuchIndex(String call, LongSupplier got) {
        same(call, answerOf(got), new Answer(0, ArrayIndexOutOfBoundsException.class));
    }

    void noSuchQuotient(String call, LongSupplier got) {
        same(call, answerOf(got), new Answer(0, ArithmeticException.class));
    }

    /** The number behind the handle is this one: asks 26 residues. */
    void holds(String what, WideCounts x, int handle, BigInteger want) {
        for (long prime : PRIMES) {
            long residue = want.mod(BigInteger.valueOf(prime)).longValueExact();
            due(what + ": residue(" + handle + ", " + prime + ")", () -> x.residue(handle, prime), residue);
        }
    }

    /** The call makes the next number, and it is this one. */
    void makes(String call, WideCounts x, LongSupplier got, BigInteger want) {
        int handle = x.kept();
        due(call, got, handle);
        due("kept() after " + call, x::kept, handle + 1);
        if (x.kept() == handle + 1) {
            holds(call, x, handle, want);
        }
    }

    void makesNothing(String call, WideCounts x, LongSupplier got) {
        int before = x.kept();
        due(call, got, -1);
        due("kept() after " + call, x::kept, before);
    }

    void end() {
        System.out.println(name + ": " + asked + " answers, " + wrong + " not as due");
        if (wrong != 0) {
            System.exit(1);
        }
    }

    private static long[] primesBelowTwoTo63(int many) {
        long[] primes = new long[many];
        BigInteger next = BigInteger.ONE.shiftLeft(63);
        for (int i = 0; i < many; i++) {
            do {
                next = next.subtract(BigInteger.ONE);
            } while (!next.isProbablePrime(40));
            primes[i] = next.longValueExact();
        }
        return primes;
    }
}
