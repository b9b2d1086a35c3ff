import java.lang.management.ManagementFactory;

/** What a run makes is counted: the constructor makes all rows, no call makes another object. */
final class RoomTest {
    private static final com.sun.management.ThreadMXBean BEAN =
            (com.sun.management.ThreadMXBean) ManagementFactory.getThreadMXBean();

    public static void main(String[] args) {
        // The first rounds load classes, which takes room of its own.
        long constructor = 0;
        long calls = 0;
        for (int round = 0; round < 20; round++) {
            long before = BEAN.getCurrentThreadAllocatedBytes();
            JobHouse house = new JobHouse();
            long made = BEAN.getCurrentThreadAllocatedBytes();
            run(house);
            calls = BEAN.getCurrentThreadAllocatedBytes() - made;
            constructor = made - before;
        }
        System.out.println("constructor: " + constructor + " bytes, calls: " + calls + " bytes");
        Check.is("the constructor is small", constructor < 50000 ? 1 : 0, 1);
        // Asking for the count takes some bytes itself.
        Check.is("the calls make nothing", calls < 200 ? 1 : 0, 1);
        Check.finish();
    }

    private static void run(JobHouse house) {
        for (int i = 0; i < 10; i++) {
            house.feed(0x30203020, 0x3132202a, 0x202a203f, 0, 0);
            house.end(12);
            house.cron(i);
            house.feed(0x2b363020, 0x3630204d, 0x332e352e, 0x302f3020, 0x4d342e35);
            house.feed(0x2e302f30, 0, 0, 0, 0);
            house.end(24);
            house.zone(i % 8);
            house.holiday(i % 4, i, true);
            house.makeCron(i, i % 8, i % 4, i, 0, i % 3, 0);
            house.make(i % 3, i, i % 3 == 0 ? 0 : 10, i, 0, 0, 0);
            house.next(i, i % 8, -1, i);
            house.last(i, i % 8, -1, Check.END_OF_TIME - i);
            house.local(i % 8, i, 5);
        }
        for (int i = 0; i < 20; i++) {
            house.advance(10000000L * i);
            house.start(0, 1);
            house.stall(100000);
            house.workers(i % 8 + 1);
            house.count(i % 6);
        }
        house.close(true, true);
    }
}
