import java.util.Arrays;

/** Edges of FRAME: what is VALID by just so much, and what is REFUSED. */
public final class EdgesFrameTest extends Edges {
    public static void main(String[] args) {
        everyBitOfTheHead();
        everyBitOfTheHeadOfADirective();
        otherNumbers();
        leastLength();
        lengthAndBytes();
        missingZeros();
        mostLength();
        bytesBehind();
        checkOfTheFrame();
        checkIsOfTheFrameAlone();
        controlWithoutBypass();
        unlockOfOneByte();
        setOfThreeBytes();
        otherDirectives();
        bodyIsBetween();
        refusedChangesNothing();
        expect.end();
    }

    private static void refused(String what, int... frame) {
        Box box = box();
        same(what + ": accepted", Ground.up(box, Ground.transmission(frame)), 0);
        same(what + ": REFUSED", box.value(23), 1);
        same(what + ": the word", box.word(), WORD);
        same(what + ": in the queue", box.value(21), 0);
        same(what + ": accepted in all", box.value(24), 0);
    }

    private static void accepted(String what, int... frame) {
        Box box = box();
        same(what + ": accepted", Ground.up(box, Ground.transmission(frame)), 1);
        same(what + ": REFUSED", box.value(23), 0);
        same(what + ": in the queue", box.value(21), 1);
    }

    private static void everyBitOfTheHead() {
        sentence("in this order of its bits, there are: 00, BYPASS (1 bit), CONTROL (1), 00, the number 346 (10), 000000");
        for (int flags : new int[] {TURN, BESIDE}) {
            int[] frame = Ground.frame(flags, 0, 9);
            accepted("as it must be", frame);
            for (int bit = 0; bit < 22; bit++) {
                if (bit != 2 && bit != 3) {
                    refused("bit " + bit + " turned", Ground.rechecked(Ground.turned(frame, bit)));
                }
            }
        }
    }

    private static void everyBitOfTheHeadOfADirective() {
        sentence("in this order of its bits, there are: 00, BYPASS (1 bit), CONTROL (1), 00, the number 346 (10), 000000");
        for (int[] body : new int[][] {{0}, {130, 0, 5}}) {
            int[] frame = Ground.frame(CONTROL, 0, body);
            for (int bit = 0; bit < 22; bit++) {
                if (bit != 3) {
                    refused("bit " + bit + " turned", Ground.rechecked(Ground.turned(frame, bit)));
                }
            }
        }
    }

    private static void otherNumbers() {
        sentence("the number 346 (10)");
        for (int number : new int[] {0, 345, 347, 346 + 512, 346 - 256, 1023}) {
            int[] frame = Ground.frame(BESIDE, 0, 9);
            frame[0] = frame[0] & 0xFC | number >>> 8;
            frame[1] = number & 255;
            refused("the number " + number, Ground.rechecked(frame));
        }
    }

    /** A frame of seven bytes and more that says it has this LENGTH, with the CHECK at the end that this tells. */
    private static int[] saying(int length, int bytes) {
        int[] head = {0x21, 0x5A, length >>> 8, length & 255, 0};
        int[] all = Ground.withCheck(Arrays.copyOf(head, Math.max(length - 1, 5)));
        return Arrays.copyOf(all, bytes);
    }

    private static void leastLength() {
        sentence("LENGTH is at least 7");
        for (int length = 0; length < 7; length++) {
            refused("LENGTH " + length, saying(length, 14));
        }
        // With LENGTH 6 the seven bytes have the CHECK 0 and are all that is said, but for a body.
        same("CHECK", Ground.check(saying(6, 7)), 0);
        refused("LENGTH 6 and seven bytes", saying(6, 7));
        accepted("LENGTH 7", saying(7, 8));
        accepted("LENGTH 8", saying(8, 9));
    }

    private static void lengthAndBytes() {
        sentence("there are LENGTH + 1 bytes or more");
        accepted("LENGTH 13 in 14 bytes", saying(13, 14));
        refused("LENGTH 14 in 14 bytes", saying(14, 14));
        accepted("LENGTH 14 in 21 bytes", saying(14, 21));
        accepted("LENGTH 20 in 21 bytes", saying(20, 21));
        refused("LENGTH 21 in 21 bytes", saying(21, 21));
        refused("LENGTH 7 in 7 bytes", saying(7, 7));
        // 85 fills a block up: here what is missing would have been just that.
        int[] frame = Ground.frame(BESIDE, 0, filled(8, 85));
        refused("15 bytes of which 14 came", Arrays.copyOf(frame, 14));
    }

    /** A frame of 14 bytes and these more, which are all 0. */
    private static int[] endingWithZeros(int more) {
        for (int i = 0; i < 1 << 24; i++) {
            int[] frame = Ground.frame(BESIDE, 0, join(filled(more + 4, 3), Ground.bytes(i, 3)));
            if (frame[13 + more] == 0 && (more == 1 || frame[12 + more] == 0)) {
                return frame;
            }
        }
        throw new IllegalStateException("there is none such");
    }

    private static void missingZeros() {
        sentence("there are LENGTH + 1 bytes or more");
        for (int more = 1; more <= 2; more++) {
            int[] frame = endingWithZeros(more);
            same("bytes", frame.length, 14 + more);
            accepted("with all its bytes", frame);
            refused("what is missing is not 0", Arrays.copyOf(frame, 14));
        }
    }

    private static void mostLength() {
        sentence("there are LENGTH + 1 bytes or more");
        Box box = box();
        int[] most = join(Ground.MARK, Ground.blocks(saying(258, 259)));
        same("LENGTH 258 in 259 bytes", Ground.up(box, most), 1);
        int[] more = join(Ground.MARK, Ground.blocks(saying(259, 259)));
        same("LENGTH 259 in 259 bytes", Ground.up(box, more), 0);
        same("REFUSED", box.value(23), 1);
        refused("LENGTH 512 in 14 bytes", saying(512, 14));
        refused("LENGTH 1023 in 14 bytes", saying(1023, 14));
        refused("LENGTH 256 + 13 in 14 bytes", saying(256 + 13, 14));
        refused("LENGTH 256 + 13 with the CHECK of 14 bytes",
            Ground.withCheck(Arrays.copyOf(row(0x21, 0x5A, 1, 13, 0), 12)));
    }

    private static void bytesBehind() {
        sentence("of which the first LENGTH + 1 are the frame");
        int[] frame = Ground.frame(BESIDE, 0, 7);
        for (int more = 0; more < 30; more++) {
            accepted(more + " bytes behind it", join(frame, filled(more, 255)));
        }
        accepted("itself behind it", join(frame, frame));
    }

    private static void checkOfTheFrame() {
        sentence("with the CHECK 0");
        int[] frame = Ground.frame(BESIDE, 0, 4, 5, 6);
        accepted("as it must be", frame);
        for (int bit = 32; bit < 8 * frame.length; bit++) {
            refused("bit " + bit + " is another", Ground.turned(frame, bit));
        }
        int[] zero = frame.clone();
        zero[zero.length - 1] = 0;
        zero[zero.length - 2] = 0;
        refused("0 instead of the CHECK", zero);
    }

    private static void checkIsOfTheFrameAlone() {
        sentence("of which the first LENGTH + 1 are the frame, with the CHECK 0");
        int[] fourteen = Ground.withCheck(Arrays.copyOf(row(0x21, 0x5A, 0, 9, 0), 12));
        same("all fourteen have the CHECK 0", Ground.check(fourteen), 0);
        refused("but not the first ten", fourteen);
    }

    private static void controlWithoutBypass() {
        sentence("and not CONTROL without BYPASS");
        refused("UNLOCK", Ground.frame(Ground.CONTROL, 0, 0));
        refused("SET", Ground.frame(Ground.CONTROL, 0, 130, 0, 5));
        refused("a packet", Ground.frame(Ground.CONTROL, 0, command(1, 17, 1)));
    }

    private static void unlockOfOneByte() {
        sentence("the body is 0 (one byte: UNLOCK)");
        Box box = box();
        send(box, TURN, 100, 1);
        same("locked", box.value(18), 3);
        for (int other = 1; other < 256; other++) {
            refused("the body " + other, Ground.frame(CONTROL, 0, other));
        }
        refused("0 0", Ground.frame(CONTROL, 0, 0, 0));
        refused("0 0 0", Ground.frame(CONTROL, 0, 0, 0, 0));
        send(box, CONTROL, 0, 0);
        same("open", box.value(18), 1);
        same("none REFUSED", box.value(23), 0);
    }

    private static void setOfThreeBytes() {
        sentence("or 130, 0, v (SET to v)");
        for (int v = 0; v < 256; v++) {
            Box box = box();
            send(box, CONTROL, 77, 130, 0, v);
            same("NEXT " + v, box.value(19), v);
            same("none REFUSED", box.value(23), 0);
        }
    }

    private static void otherDirectives() {
        sentence("or it is not VALID.");
        int[][] bodies = {{130}, {130, 0}, {130, 0, 5, 6}, {130, 0, 5, 0}, {130, 1, 5}, {130, 255, 5}, {131, 0, 5},
            {129, 0, 5}, {0, 0, 5}, {0, 130, 0}, {2, 0, 5}, {0, 5}, command(1, 17, 1)};
        for (int[] body : bodies) {
            refused("control " + Arrays.toString(body), Ground.frame(CONTROL, 0, body));
        }
    }

    private static void bodyIsBetween() {
        sentence("Its BODY is what is between the first five bytes and the last two.");
        for (int length : new int[] {1, 2, 3, 4, 5, 12}) {
            Station s = new Station();
            int[] body = Arrays.copyOf(row(9, 8, 7, 6, 5, 4, 3, 2, 1, 10, 11, 12), length);
            same("accepted, " + length, s.sendPacket(body), 1);
            s.tick();
            bytes("a body of " + length, s.reports.get(0).data(), join(Arrays.copyOf(body, 4), row(0, 1)));
        }
        Station s = new Station();
        int[] longest = command(1, 6, 2, join(row(0, 0, 236), filled(235, 3), row(200)));
        same("252 bytes", longest.length, 252);
        same("accepted", Ground.up(s.box, join(Ground.MARK, Ground.blocks(Ground.frame(BESIDE, 0, longest)))), 1);
        s.tick();
        text("no fault", s.told(), "");
        same("its last byte but two", s.box.memory(235), 200);
        same("nothing behind it", s.box.memory(236), 0);
    }

    private static void refusedChangesNothing() {
        sentence("What is not VALID is REFUSED.");
        Box box = box();
        send(box, TURN, 0, 1);
        send(box, TURN, 3, 1);
        send(box, BESIDE, 0, 1);
        int word = box.word();
        int[] wrong = Ground.frame(TURN, 1, 1);
        wrong[5] ^= 1;
        for (int i = 1; i <= 5; i++) {
            Ground.up(box, Ground.transmission(wrong));
            same("REFUSED", box.value(23), i);
            same("the word", box.word(), word);
            same("in the queue", box.value(21), 2);
        }
    }
}
