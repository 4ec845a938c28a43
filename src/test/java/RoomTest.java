import java.lang.management.ManagementFactory;

/** Calls make nothing: all that an object needs is made with it, and that is little. */
public final class RoomTest {
    public static void main(String[] args) {
        com.sun.management.ThreadMXBean threads =
                (com.sun.management.ThreadMXBean) ManagementFactory.getThreadMXBean();
        long thread = Thread.currentThread().getId();
        run(new AlwaysAhead());
        long start = threads.getThreadAllocatedBytes(thread);
        AlwaysAhead x = new AlwaysAhead();
        long made = threads.getThreadAllocatedBytes(thread);
        run(x);
        long after = threads.getThreadAllocatedBytes(thread);
        Due.isTrue("an object takes 20000 bytes at most: " + (made - start), made - start < 20000);
        // the bean itself may make something when it is asked
        Due.isTrue("calls make nothing: " + (after - made), after - made < 1000);
        Due.end("RoomTest");
    }

    private static void run(AlwaysAhead x) {
        x.heap(4, 2);
        x.heap(2, 4);
        x.heap(3, 3);
        x.heap(1, 1);
        x.fact(3, 1, 4);
        for (int i = 0; i < 20; i++) {
            x.row(i % 8, i % 5, 20);
            x.set(i % 8, i % 20, i);
            x.drawing(i % 8, 1 + i % 6, i % 10);
            x.says(i % 8, 1);
            x.head();
            x.order(true, 0);
            x.level(i);
            x.sure(i);
            x.half();
            x.often();
            x.feed(104);
            x.drum();
            x.image();
            x.evening();
            x.ways();
            x.back();
            x.judge(i % 8);
            x.lost(i);
        }
    }
}
