import com.sun.management.ThreadMXBean;
import java.lang.management.ManagementFactory;

/** What a run makes of objects stays small: all calls of one run share a room that is never swept. */
public final class RoomTest {
    // The room holds some 7.3 million fields and elements; a run is to take no hundredth of it.
    private static final long MOST_BYTES = 400_000;

    public static void main(String[] args) {
        Tally tally = new Tally("RoomTest");
        ThreadMXBean threads = (ThreadMXBean) ManagementFactory.getThreadMXBean();
        dearestRun();
        long before = threads.getCurrentThreadAllocatedBytes();
        dearestRun();
        long taken = threads.getCurrentThreadAllocatedBytes() - before;
        tally.truth("the dearest run takes " + taken + " bytes, at most " + MOST_BYTES, taken <= MOST_BYTES, true);
        tally.end();
    }

    private static void dearestRun() {
        WideCounts x = new WideCounts();
        int wide = x.power(x.value(-3), 1009);
        for (int i = 0; i < 144; i++) {
            x.entry(i / 12, i % 12, Long.MAX_VALUE - i * i * i * 977L);
        }
        for (int i = 0; i < 80; i++) {
            x.determinant(12);
            x.over(wide, 0);
        }
        for (int i = 0; i < 60; i++) {
            x.digit(wide, 400);
            x.residue(wide, Long.MIN_VALUE);
            x.power(0, 1600);
        }
    }
}
