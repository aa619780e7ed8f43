import com.sun.management.ThreadMXBean;
import java.lang.management.ManagementFactory;

/** What a run makes: an object takes a little room, and its calls take none. */
public final class RoomTest {
    private static final long MOST_OF_OBJECT = 32768;
    private static final long MOST_OF_CALLS = 4096;

    private RoomTest() {
    }

    private static long made() {
        ThreadMXBean threads = (ThreadMXBean) ManagementFactory.getThreadMXBean();
        return threads.getThreadAllocatedBytes(Thread.currentThread().getId());
    }

    public static void main(String[] args) {
        calls(new UncrossedParts());
        made();
        long before = made();
        UncrossedParts x = new UncrossedParts();
        long between = made();
        calls(x);
        long after = made();
        Check.holds("an object takes " + (between - before) + " bytes", between - before < MOST_OF_OBJECT);
        Check.holds("its calls take " + (after - between) + " bytes", after - between < MOST_OF_CALLS);
        Check.end();
    }

    private static void calls(UncrossedParts x) {
        for (int i = 0; i < 16; i++) {
            x.points(8);
            x.puts(0, i % 8, 7);
            x.puts(1, 1, i % 8);
            x.meets(2, 0, 1);
            x.joins(3, 0, 1);
            x.complements(4, i % 6);
            x.turns(5, i % 6);
            x.takes(0, i * 80);
            for (int what = 0; what < 6; what++) {
                x.of(0, what);
            }
            x.row(0, i);
            x.below(2, 3);
            x.count(i);
            x.evens();
            x.covers(0, i);
            x.mark(2, 3);
            x.chains(2, 3);
            x.marked(i);
            x.signed(2, 3);
            x.between(2, 3);
            x.number(i, i);
            x.as(i % 3, i / 3 % 3, 8);
            x.type("n8;x1-5;p0 1 2;".charAt(i % 15));
            x.does();
            x.back();
            x.told(i % 5);
            x.digest();
        }
    }
}
