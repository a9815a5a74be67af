import java.util.Arrays;

/** Promise 4, the receiver: the mark, blocks that are put right, and where a frame ends. */
public final class Promise04ReceiverTest {
    private static final Expect expect = new Expect();
    private static final int[] FRAME = Ground.frame(Ground.BYPASS, 0, 1, 2, 3, 4, 5, 6, 7, 8, 9);
    private static final int[] SENT = Ground.transmission(FRAME);

    public static void main(String[] args) {
        markMayHaveOneWrongBit();
        markMayStandAnywhere();
        markNeedsSixteenBits();
        bitsOfABlockAreNoMark();
        oneWrongBitOfABlockIsPutRight();
        twoWrongBitsEndTheFrame();
        wrongBlockAloneIsNoFrame();
        longestFrameEndsByItself();
        everythingStaysFromOneUplinkToTheNext();
        severalFramesInOneUplink();
        expect.end();
    }

    private static Box box() {
        return new Box(1, 64, 1, 1, 64);
    }

    private static void markMayHaveOneWrongBit() {
        for (int i = 0; i < 16; i++) {
            expect.same("bit " + i + " of the mark turned", Ground.up(box(), Ground.turned(SENT, i)), 1);
            for (int j = i + 1; j < 16; j++) {
                Box box = box();
                int[] two = Ground.turned(Arrays.copyOf(SENT, 2), i, j);
                expect.same("bits " + i + " and " + j + " turned", Ground.up(box, two), 0);
                expect.same("still searching", box.state(5), 0);
            }
        }
    }

    private static int[] shifted(int[] bytes, int by) {
        int[] all = new int[bytes.length + 1];
        for (int i = 0; i < 8 * bytes.length; i++) {
            if ((bytes[i / 8] & 128 >>> i % 8) != 0) {
                all[(i + by) / 8] |= 128 >>> (i + by) % 8;
            }
        }
        return all;
    }

    private static void markMayStandAnywhere() {
        for (int by = 0; by < 8; by++) {
            expect.same("later by " + by + " bits", Ground.up(box(), shifted(SENT, by)), 1);
            Box box = box();
            Ground.up(box, Ground.join(Ground.row(0, 0, 0), shifted(Ground.MARK, by)));
            expect.same("collecting, " + by, box.state(5), 1);
        }
    }

    private static void markNeedsSixteenBits() {
        // Fifteen bits that would do, were there a 0 before them.
        Box box = box();
        int[] fifteen = {0b11010111, 0b00100000};
        Ground.up(box, fifteen[0]);
        expect.same("eight bits are no mark", box.state(5), 0);
        Ground.up(box, fifteen[1]);
        expect.same("the sixteenth makes it another row", box.state(5), 0);
        Box eight = box();
        Ground.up(eight, 0xEB);
        expect.same("half the mark", eight.state(5), 0);
        Ground.up(eight, 0x90);
        expect.same("the mark", eight.state(5), 1);
    }

    private static void bitsOfABlockAreNoMark() {
        // A block that is WRONG and ends with the mark's first half: the search begins behind it.
        int[] wrong = {1, 2, 3, 4, 5, 6, 7, 0xEB};
        Box box = box();
        Ground.up(box, Ground.join(Ground.MARK, wrong));
        expect.same("it was wrong", box.state(5), 0);
        Ground.up(box, 0x90);
        expect.same("half a mark does not do", box.state(5), 0);
        expect.same("a whole one does", Ground.up(box, SENT), 1);
    }

    private static void oneWrongBitOfABlockIsPutRight() {
        for (int bit = 0; bit < 64; bit++) {
            Box box = box();
            expect.same("bit " + bit + " turned", Ground.up(box, Ground.turned(SENT, 16 + bit)), 1);
            expect.same("put right, bit " + bit, box.value(22), bit == 63 ? 0 : 1);
            expect.same("nothing refused", box.value(23), 0);
        }
        Box box = box();
        expect.same("one in each block", Ground.up(box, Ground.turned(SENT, 16 + 5, 16 + 64 + 60, 16 + 128 + 1)), 1);
        expect.same("each put right", box.value(22), 3);
        expect.same("a right one is not counted", Ground.up(box, SENT), 1);
        expect.same("still three", box.value(22), 3);
    }

    private static void twoWrongBitsEndTheFrame() {
        for (int i = 0; i < 63; i += 5) {
            for (int j = i + 1; j < 63; j += 3) {
                Box box = box();
                int[] sent = Ground.turned(SENT, 16 + 64 + i, 16 + 64 + j);
                Ground.up(box, Arrays.copyOf(sent, 2 + 16));
                expect.same("two wrong bits", box.state(5), 0);
                expect.same("what came is no frame", box.value(23), 1);
                expect.same("and was not put right", box.value(22), 0);
            }
        }
    }

    private static void wrongBlockAloneIsNoFrame() {
        Box box = box();
        expect.same("nothing came", Ground.up(box, Ground.join(Ground.MARK, Ground.WRONG_BLOCK)), 0);
        expect.same("nothing refused", box.value(23), 0);
        expect.same("searching", box.state(5), 0);
        Ground.up(box, Ground.join(Ground.MARK, Ground.blocks(1, 2, 3, 4, 5, 6, 7), Ground.WRONG_BLOCK));
        expect.same("seven bytes that are none", box.value(23), 1);
    }

    private static void longestFrameEndsByItself() {
        int[] body = new int[252];
        Arrays.fill(body, 7);
        int[] longest = Ground.join(Ground.MARK, Ground.blocks(Ground.frame(Ground.BYPASS, 0, body)));
        expect.same("37 blocks", longest.length, 2 + 37 * 8);
        Box box = box();
        expect.same("all but the last block", Ground.up(box, Arrays.copyOf(longest, 2 + 36 * 8)), 0);
        expect.same("collecting", box.state(5), 1);
        expect.same("the last block", Ground.up(box, Arrays.copyOfRange(longest, 2 + 36 * 8, longest.length)), 1);
        expect.same("searching", box.state(5), 0);
        expect.same("a mark at once behind it", Ground.up(box, Ground.join(longest, longest)), 2);
        int[] split = Ground.join(longest, Ground.blocks(1, 2, 3, 4, 5, 6, 7), SENT);
        expect.same("a 38th block is noise", Ground.up(box(), split), 2);
    }

    private static void everythingStaysFromOneUplinkToTheNext() {
        Box box = box();
        int came = 0;
        for (int i = 0; i < SENT.length; i++) {
            came += Ground.up(box, SENT[i]);
            expect.same("collecting behind byte " + i, box.state(5), i >= 1 && i < SENT.length - 1 ? 1 : 0);
        }
        expect.same("came byte by byte", came, 1);
    }

    private static void severalFramesInOneUplink() {
        Box box = box();
        int[] noise = {0, 255, 17, 34};
        int[] bad = Ground.transmission(1, 2, 3, 4, 5, 6, 7, 8, 9);
        expect.same("three come", Ground.up(box, Ground.join(SENT, noise, SENT, bad, noise, SENT)), 3);
        expect.same("accepted", box.value(24), 3);
        expect.same("refused", box.value(23), 1);
        expect.same("queued", box.value(21), 3);
    }
}
