import java.lang.management.ManagementFactory;

/** No call makes an object: the dearest calls, again and again, take no room. */
final class RoomTest {
    private static final int OBJECTS = 6, ROUNDS = 80;
    /** What the machine takes for itself on the way; one object a CYCLE would be a hundred times as much. */
    private static final long SOME_BYTES = 64 * 1024;

    public static void main(String[] args) {
        SlotStart[] some = new SlotStart[OBJECTS];
        for (int i = 0; i < OBJECTS; i++) {
            some[i] = Scenes.six();
        }
        calls(Scenes.six());
        long ahead = taken();
        for (SlotStart x : some) {
            calls(x);
        }
        long bytes = taken() - ahead;
        Check.due("bytes taken: " + bytes + ", too many", bytes > SOME_BYTES ? 1 : 0, 0);
        Check.end();
    }

    private static void calls(SlotStart x) {
        for (int i = 0; i < ROUNDS; i++) {
            x.bears(i % 6, 40, 0);
            x.soon();
            x.run(50);
            x.image(i % 2);
            x.restore(i % 2);
            x.trim(4, 4, 3, 2, 1);
        }
    }

    private static long taken() {
        com.sun.management.ThreadMXBean threads =
            (com.sun.management.ThreadMXBean) ManagementFactory.getThreadMXBean();
        return threads.getThreadAllocatedBytes(Thread.currentThread().getId());
    }
}
