import java.lang.management.ManagementFactory;

/** All calls of a run live in one room: an object is small, and its calls make nothing new. */
public final class RoomTest {
    private static final int CALLS = 512;
    private static final long MOST_BYTES_OF_AN_OBJECT = 12000;
    private static final long MOST_BYTES_OF_ALL_CALLS = 4000;

    private RoomTest() {
    }

    public static void main(String[] args) {
        // The first run loads classes and warms what measures.
        measure();
        long[] bytes = measure();
        Checks.dueThat("an object is small: " + bytes[0], bytes[0] <= MOST_BYTES_OF_AN_OBJECT);
        Checks.dueThat("calls make nothing: " + bytes[1], bytes[1] <= MOST_BYTES_OF_ALL_CALLS);
        Checks.finish("RoomTest");
    }

    private static long[] measure() {
        long start = allocated();
        DrumTongue x = new DrumTongue();
        long made = allocated();
        useAll(x);
        return new long[] {made - start, allocated() - made};
    }

    private static long allocated() {
        com.sun.management.ThreadMXBean bean = (com.sun.management.ThreadMXBean) ManagementFactory.getThreadMXBean();
        return bean.getThreadAllocatedBytes(Thread.currentThread().getId());
    }

    /** The largest of everything, and then each call in turn. */
    private static void useAll(DrumTongue x) {
        int calls = 0;
        for (int i = 0; i < 5; i++) {
            x.ending(i + 1, i);
        }
        for (int i = 0; i < 10; i++) {
            x.word(1 + i % 6, i % 2);
        }
        x.choose();
        for (int i = 0; i < 60; i++) {
            x.hear(i % 3 - 1);
        }
        for (int s = 0; s < 6; s++) {
            for (int d = 0; d < 6; d++) {
                x.hill(s, d, 900 + s, 1 + d);
            }
        }
        calls += 5 + 10 + 1 + 60 + 36;
        while (calls + 14 < CALLS) {
            calls += someCalls(x);
        }
    }

    private static int someCalls(DrumTongue x) {
        x.read();
        x.doubt(3);
        x.most();
        x.choose();
        x.least();
        x.digest();
        x.drum(0);
        x.slip(5, 2);
        x.way(0, 5);
        x.wayAt(0, 5, 1);
        x.age(0, 5);
        x.enough(0, 5, 999000000);
        x.times(0, 5, 999000000, 1);
        x.far(0, 1);
        return 14;
    }
}
