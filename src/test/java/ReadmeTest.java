import java.math.BigInteger;

/** The example of README.md, line by line: the answers are the ones that are written there. */
public final class ReadmeTest {
    public static void main(String[] args) {
        Tally tally = new Tally("ReadmeTest");
        WideCounts x = new WideCounts();
        tally.due("value(2)", () -> x.value(2), 0);
        tally.due("power(two, 1599)", () -> x.power(0, 1_599), 1);
        tally.due("times(wide, two)", () -> x.times(1, 0), -1);
        tally.due("binomial(1600, 800)", () -> x.binomial(1_600, 800), 2);
        tally.due("order(many, wide)", () -> x.order(2, 1), -1);
        tally.due("digit(many, 0)", () -> x.digit(2, 0), 4);
        tally.due("residue(many, 1_000_000_007L)", () -> x.residue(2, 1_000_000_007L), 226_490_457);
        tally.truth("entry(0, 0, -7)", x.entry(0, 0, -7), true);
        tally.due("determinant(1)", () -> x.determinant(1), 3);
        tally.holds("corner", x, 3, BigInteger.valueOf(-7));
        tally.due("over(corner, two)", () -> x.over(3, 0), 4);
        tally.holds("the quotient", x, 4, BigInteger.valueOf(-3));
        tally.noSuchIndex("over(two, 99)", () -> x.over(0, 99));
        tally.due("kept()", x::kept, 5);
        tally.end();
    }
}
