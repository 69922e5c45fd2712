import java.lang.management.ManagementFactory;

/** All calls of a run live in one room: what a new object and 512 of its dearest calls take is small. */
public final class RoomTest {
    /** 7.3 million fields and elements are the room; an object and three images take well under a fiftieth of it. */
    private static final long MOST_BYTES = 400000;

    public static void main(String[] args) {
        Check check = new Check("RoomTest");
        fill();
        com.sun.management.ThreadMXBean threads =
            (com.sun.management.ThreadMXBean) ManagementFactory.getThreadMXBean();
        long before = threads.getCurrentThreadAllocatedBytes();
        fill();
        long taken = threads.getCurrentThreadAllocatedBytes() - before;
        System.out.println("RoomTest: a run took " + taken + " bytes");
        check.yes("a run's bytes are few", taken < MOST_BYTES);
        check.close();
    }

    private static void fill() {
        HerdBooks x = new HerdBooks();
        for (int i = 0; i < 10; i++) {
            x.cell(true);
            x.way(i, i - 1, 1);
            x.camp(i, i % 4);
            x.book(i % 8, i % 4, i, 400, 100);
            x.reader(0);
        }
        for (int k = 0; k < 60; k++) {
            x.week(k);
            x.feed(0x69662077, 0x656C6C3A, 0x6261723B, 0x20202020, 0x20202020);
            x.rules();
            x.lend(k % 10, k % 6);
            x.news(k % 6, k % 10, k, false);
            x.house(0, 99, 0);
            x.round(99, 60, 2);
            x.load(k % 6, 20000, 2);
        }
        x.image(0);
        x.image(1);
        x.image(2);
        x.again(0);
    }
}
