import java.lang.management.ManagementFactory;

/** All calls of a run live in one room, of some 7.3 million fields and elements. */
public final class RoomTest {
    private static final long ROOM = 7_300_000L * Integer.BYTES;
    private static final Expect expect = new Expect();

    public static void main(String[] args) {
        com.sun.management.ThreadMXBean threads = (com.sun.management.ThreadMXBean) ManagementFactory.getThreadMXBean();
        int[] order = Ground.transmission(Ground.frame(1, 0, Ground.command(1, 15, 6, 5, 0, 0, 255)));
        int[] ints = new int[20];
        for (int i = 0; i < order.length; i++) {
            ints[i / 4] |= order[i] << 24 - i % 4 * 8;
        }
        long before = threads.getCurrentThreadAllocatedBytes();
        work(new OrbitBox(64, 256, 4, 1, 16384), ints, order.length);
        long made = threads.getCurrentThreadAllocatedBytes() - before;
        expect.yes("an object and its 512 calls have room: " + made, made < ROOM);
        expect.end();
    }

    private static void work(OrbitBox box, int[] ints, int length) {
        for (int i = 0; i < 512 / 8; i++) {
            box.feed(ints[0], ints[1], ints[2], ints[3], ints[4]);
            box.feed(ints[5], ints[6], ints[7], ints[8], ints[9]);
            box.feed(ints[10], ints[11], ints[12], ints[13], ints[14]);
            box.end(length);
            box.uplink();
            box.sense(1, i);
            box.tick();
            box.limit(i, 1);
        }
    }
}
