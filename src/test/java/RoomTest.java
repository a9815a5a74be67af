import java.lang.management.ManagementFactory;

/** All calls of a run live in one room: no call but the constructor may make objects, and that few. */
public final class RoomTest {
    private static final Expect expect = new Expect();

    public static void main(String[] args) {
        com.sun.management.ThreadMXBean threads = (com.sun.management.ThreadMXBean) ManagementFactory.getThreadMXBean();
        int[] order = Ground.transmission(Ground.frame(1, 0, Ground.command(1, 15, 6, 5, 0, 0, 255)));
        int[] ints = new int[20];
        for (int i = 0; i < order.length; i++) {
            ints[i / 4] |= order[i] << 24 - i % 4 * 8;
        }
        work(new OrbitBox(64, 256, 4, 1, 16384), ints, order.length);
        long before = threads.getCurrentThreadAllocatedBytes();
        OrbitBox box = new OrbitBox(64, 256, 4, 1, 16384);
        long made = threads.getCurrentThreadAllocatedBytes();
        work(box, ints, order.length);
        long after = threads.getCurrentThreadAllocatedBytes();
        expect.yes("the constructor makes less than 80,000 ints: " + (made - before), made - before < 4 * 80000);
        expect.yes("512 calls make next to nothing: " + (after - made), after - made < 20000);
        expect.end();
    }

    private static void work(OrbitBox box, int[] ints, int length) {
        for (int i = 0; i < 512 / 8; i++) {
            box.feed(ints[0], ints[1], ints[2], ints[3], ints[4]);
            box.feed(ints[5], ints[6], ints[7], ints[8], ints[9]);
            box.feed(ints[10], ints[11], ints[12], ints[13], ints[14]);
            box.end(length);
            box.uplink();
            box.sense(1, i);
            box.tick();
            box.limit(i, 1);
        }
    }
}
