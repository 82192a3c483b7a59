import java.lang.management.ManagementFactory;

/** LANGUAGE.md, rule 12, and the room that all calls of a run share: 512 calls, the dearest ones, keep few objects. */
public final class RoomTest {
    private static final Check CHECK = new Check();
    private static final String FULL = "frames 48;rate 1 16;smart;zero;guest12;guest12;guest12;guest12;advise 0 0 11;"
            + "advise 1 0 11;advise 2 0 11;advise 3 0 11;";
    /** Far below 7.3 million fields of four bytes each. */
    private static final long MOST_BYTES = 2_000_000;

    public static void main(String[] args) {
        runOf512();
        long ahead = bytes();
        runOf512();
        long made = bytes() - ahead;
        CHECK.due("bytes made by 512 calls: " + made + ", at most " + MOST_BYTES, made <= MOST_BYTES, true);
        CHECK.end();
    }

    private static long bytes() {
        com.sun.management.ThreadMXBean threads = (com.sun.management.ThreadMXBean) ManagementFactory.getThreadMXBean();
        return threads.getThreadAllocatedBytes(Thread.currentThread().getId());
    }

    private static void runOf512() {
        GuestPages x = Check.told(FULL);
        for (int i = 0; i < 90; i++) {
            x.write(i % 48 / 12, i % 12, 0, i % 5);
        }
        x.ticks(3);
        x.image();
        for (int i = 0; i < 40; i++) {
            x.undo();
        }
        for (int i = 0; i < 40; i++) {
            x.ticks(20);
        }
        x.image();
        for (int i = 0; i < 8; i++) {
            x.note(i, 48);
        }
        for (int i = 0; i < 25; i++) {
            x.restore();
            x.then(60, 0);
            x.quiet();
            x.merges(3, 11);
            x.toAdvise(40, 0);
            x.toRate(20, 0);
            x.guess(0, 0, 0, 0);
            x.look(0, 0, 0, 0);
            x.dirt(0, 0, 4, 5, 40);
            x.years(i, 60, 0);
            x.knot(0, true, 0, 1);
            Check.orders(x, "tick 20;scan 100;");
        }
    }
}
