/** Promise 2: feed. */
public final class Promise02FeedTest {
    private static final Expect expect = new Expect();

    public static void main(String[] args) {
        highestByteComesFirst();
        tapeHolds4096Bytes();
        fullTapeStaysAsItIs();
        expect.end();
    }

    private static void highestByteComesFirst() {
        // A frame beside the turn with the body 1, written out as the ints that carry it.
        int[] sent = Ground.transmission(Ground.frame(Ground.BYPASS, 0, 1));
        Box box = new Box(1, 64, 1, 1, 64);
        int[] ints = new int[10];
        for (int i = 0; i < sent.length; i++) {
            ints[i / 4] = ints[i / 4] | sent[i] << 24 - i % 4 * 8;
        }
        expect.same("the first int", ints[0], 0xEB90215A);
        expect.yes("feed", box.feed(ints[0], ints[1], ints[2], ints[3], ints[4]));
        expect.yes("feed", box.feed(ints[5], ints[6], ints[7], ints[8], ints[9]));
        expect.same("uplink", box.uplink(), 1);
        expect.same("in the queue", box.value(21), 1);
    }

    private static void tapeHolds4096Bytes() {
        Box box = new Box(1, 64, 1, 1, 64);
        for (int i = 0; i < 204; i++) {
            expect.yes("feed " + i, box.feed(i, i, i, i, i));
        }
        expect.no("4100 bytes", box.feed(0, 0, 0, 0, 0));
        expect.yes("4080 are there", box.end(4080));
        expect.yes("end at 4077", box.end(4077));
        expect.no("4097 bytes", box.feed(0, 0, 0, 0, 0));
        expect.yes("end at 4076", box.end(4076));
        expect.yes("4096 bytes", box.feed(0, 0, 0, 0, 0));
        expect.no("no byte more", box.feed(0, 0, 0, 0, 0));
        expect.yes("4096 are there", box.end(4096));
        box.uplink();
        expect.yes("empty again", box.feed(0, 0, 0, 0, 0));
        expect.yes("twenty bytes", box.end(20));
    }

    private static void fullTapeStaysAsItIs() {
        Box box = new Box(1, 64, 1, 1, 64);
        for (int i = 0; i < 203; i++) {
            box.feed(0, 0, 0, 0, 0);
        }
        box.end(4096 - 36);
        int[] sent = Ground.transmission(Ground.frame(Ground.BYPASS, 0, 1));
        int[] ints = new int[10];
        for (int i = 0; i < sent.length; i++) {
            ints[i / 4] |= sent[i] << 24 - i % 4 * 8;
        }
        box.feed(ints[0], ints[1], ints[2], ints[3], ints[4]);
        expect.no("16 bytes are left", box.feed(-1, -1, -1, -1, -1));
        expect.yes("nothing came", box.end(4080));
        expect.no("nothing came", box.end(4081));
        box.uplink();
        box.feed(ints[5], ints[6], ints[7], ints[8], ints[9]);
        expect.same("the frame goes on with the next tape", box.uplink(), 1);
    }
}
