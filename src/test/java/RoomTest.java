import java.lang.management.ManagementFactory;

/** What a run makes: its room has some 600,000 objects and 7.3 million fields and elements. */
public final class RoomTest {
    /** 7.3 million elements of four bytes, which is less than the room if some are greater. */
    private static final long MOST_BYTES = 4 * 7_300_000L;

    public static void main(String[] args) {
        long most = 0;
        // More than once: what is made only when a class is used first is none of a run's.
        for (int run = 0; run < 5; run++) {
            long before = allocated();
            fullRun();
            most = allocated() - before;
        }
        System.out.println("a run of " + Run.MOST_CALLS + " calls makes " + most + " bytes");
        if (most > MOST_BYTES) {
            System.exit(1);
        }
    }

    private static long allocated() {
        com.sun.management.ThreadMXBean threads =
                (com.sun.management.ThreadMXBean) ManagementFactory.getThreadMXBean();
        return threads.getThreadAllocatedBytes(Thread.currentThread().getId());
    }

    /** A full map and a full text, and then the dearest calls again and again. */
    private static void fullRun() {
        KeyHall hall = new KeyHall();
        int calls = 0;
        for (int i = 0; i < 64; i++) {
            long four = 0x0100_0001_0001_0001L * (i + 1);
            hall.type(four, 4);
            hall.type(~four, 4);
            hall.put(1, i);
            calls += 3;
        }
        for (int i = 0; i < 15; i++) {
            hall.type(-1L, 4);
            hall.type(-1L, 4);
            hall.insert(0);
            calls += 3;
        }
        while (calls + 10 <= Run.MOST_CALLS) {
            calls += dearCalls(hall);
        }
    }

    private static int dearCalls(KeyHall hall) {
        hall.view(1, 3);
        hall.freeze(1);
        hall.edges(0);
        hall.match(1, 8);
        hall.poll(1, true);
        hall.put(1, 1);
        hall.delete(0, 120);
        hall.undo();
        hall.suffix(119, 1);
        hall.locate(1);
        return 10;
    }
}
