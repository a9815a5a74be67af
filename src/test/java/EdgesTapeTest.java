import java.util.Arrays;

/** Edges of the tape: promises 2 (feed), 3 (end) and 4 (uplink). */
public final class EdgesTapeTest extends Edges {
    private static final int[] SENT = Ground.transmission(Ground.frame(BESIDE, 0, 1));

    public static void main(String[] args) {
        mostBytes();
        noRoomForAll();
        refusedFeedChangesNothing();
        highestByteFirst();
        endAtLess();
        endAtAllAndAtNothing();
        endBeyond();
        endBelowZero();
        refusedEndChangesNothing();
        emptyTape();
        tapeIsEmptyThen();
        howManyWereAccepted();
        expect.end();
    }

    private static Box fed(int times) {
        Box box = box();
        for (int i = 0; i < times; i++) {
            yes("feed " + i, box.feed(0, 0, 0, 0, 0));
        }
        return box;
    }

    private static void mostBytes() {
        sentence("THE TAPE has at most 4,096 bytes.");
        Box box = fed(204);
        no("4,100 bytes", box.feed(0, 0, 0, 0, 0));
        yes("4,076 bytes", box.end(4076));
        yes("4,096 bytes", box.feed(0, 0, 0, 0, 0));
        yes("all of them are there", box.end(4096));
        no("a full tape takes none", box.feed(0, 0, 0, 0, 0));
        no("nor has it more", box.end(4097));
    }

    private static void noRoomForAll() {
        sentence("Twenty bytes come to the tape ... true; false, changing nothing, if there is no room.");
        for (int left = 0; left <= 40; left++) {
            Box box = fed(204);
            box.end(4096 - Math.max(left, 16));
            if (left < 16) {
                box.end(4076 - left);
                box.feed(0, 0, 0, 0, 0);
                box.end(4096 - left);
            }
            same("room for " + left, box.feed(0, 0, 0, 0, 0) ? 1 : 0, left >= 20 ? 1 : 0);
        }
    }

    private static void refusedFeedChangesNothing() {
        sentence("false, changing nothing, if there is no room.");
        Box box = fed(204);
        yes("cut to what the transmission leaves, less one", box.end(4096 - SENT.length - 1));
        int[] ints = new int[10];
        for (int i = 0; i < SENT.length; i++) {
            ints[i / 4] |= SENT[i] << 24 - i % 4 * 8;
        }
        same("the transmission has 26 bytes", SENT.length, 26);
        yes("its first twenty", box.feed(ints[0], ints[1], ints[2], ints[3], ints[4]));
        for (int i = 0; i < 3; i++) {
            no("seven bytes are left", box.feed(-1, -1, -1, -1, -1));
            no("none of the twenty came", box.end(4096 - 6));
        }
        yes("what was there is there", box.end(4096 - 7));
        box.uplink();
        box.feed(ints[5], ints[6], ints[7], ints[8], ints[9]);
        same("and was as it had been", box.uplink(), 1);
    }

    private static void highestByteFirst() {
        sentence("Twenty bytes come to the tape, the highest of each int first");
        Box box = box();
        box.feed(0x0000_00EB, 0x9000_0000, 0, 0, 0);
        box.end(4);
        box.uplink();
        same("half a mark", box.state(5), 0);
        box.feed(0x9000_0000, 0, 0, 0, 0);
        box.end(1);
        box.uplink();
        same("the lowest byte of an int, then the highest of the next", box.state(5), 1);
        Box other = box();
        other.feed(0xEB90_0000, 0, 0, 0, 0);
        other.end(2);
        other.uplink();
        same("the two highest bytes", other.state(5), 1);
        for (int i = 0; i < 5; i++) {
            int[] ints = new int[5];
            ints[i] = 0x0000_EB90;
            Box one = box();
            one.feed(ints[0], ints[1], ints[2], ints[3], ints[4]);
            one.end(4 * i + 3);
            one.uplink();
            same("all but the last byte of int " + i, one.state(5), 0);
            Box all = box();
            all.feed(ints[0], ints[1], ints[2], ints[3], ints[4]);
            all.end(4 * i + 4);
            all.uplink();
            same("the last byte of int " + i, all.state(5), 1);
        }
    }

    private static void endAtLess() {
        sentence("The tape has its first n bytes alone: true");
        Box box = box();
        Ground.load(box, join(SENT, SENT));
        yes("the first half", box.end(SENT.length));
        same("one frame", box.uplink(), 1);
        Ground.load(box, SENT);
        yes("all but a byte", box.end(SENT.length - 1));
        same("no frame yet", box.uplink(), 0);
        same("the receiver waits for the rest", box.state(5), 1);
    }

    private static void endAtAllAndAtNothing() {
        sentence("The tape has its first n bytes alone: true");
        Box box = box();
        yes("0 of 0", box.end(0));
        Ground.load(box, SENT);
        yes("all of them", box.end(SENT.length));
        yes("all of them once more", box.end(SENT.length));
        yes("none of them", box.end(0));
        same("nothing arrives", box.uplink(), 0);
        same("nothing arrived", box.state(5), 0);
    }

    private static void endBeyond() {
        sentence("false if it has less, or n is below 0.");
        Box box = box();
        no("1 of 0", box.end(1));
        no("the largest of 0", box.end(LARGEST));
        box.feed(0, 0, 0, 0, 0);
        no("21 of 20", box.end(21));
        no("4,096 of 20", box.end(4096));
        no("the largest of 20", box.end(LARGEST));
        yes("19 of 20", box.end(19));
        no("20 of 19", box.end(20));
        Box full = fed(204);
        full.end(4076);
        full.feed(0, 0, 0, 0, 0);
        no("4,097 of 4,096", full.end(4097));
    }

    private static void endBelowZero() {
        sentence("false if it has less, or n is below 0.");
        Box box = box();
        no("-1 of 0", box.end(-1));
        box.feed(0, 0, 0, 0, 0);
        no("-1 of 20", box.end(-1));
        no("-20 of 20", box.end(-20));
        no("the least of 20", box.end(LEAST));
    }

    private static void refusedEndChangesNothing() {
        sentence("false if it has less, or n is below 0.");
        Box box = box();
        Ground.load(box, SENT);
        no("below 0", box.end(-1));
        no("the least", box.end(LEAST));
        no("one too many", box.end(SENT.length + 1));
        same("all is there still, and no more", box.uplink(), 1);
        same("nothing came behind it", box.state(5), 0);
    }

    private static void emptyTape() {
        sentence("The bits of the tape's bytes arrive");
        Box box = box();
        same("of none", box.uplink(), 0);
        same("of none once more", box.uplink(), 0);
        Ground.load(box, Arrays.copyOf(SENT, 10));
        box.uplink();
        same("of none in the midst of a frame", box.uplink(), 0);
        same("changes nothing", box.state(5), 1);
        same("the frame goes on", Ground.up(box, Arrays.copyOfRange(SENT, 10, SENT.length)), 1);
    }

    private static void tapeIsEmptyThen() {
        sentence("it is empty then");
        Box box = box();
        same("a frame", Ground.up(box, SENT), 1);
        no("no byte is left", box.end(1));
        same("it does not come twice", box.uplink(), 0);
        Box full = fed(204);
        full.uplink();
        for (int i = 0; i < 204; i++) {
            yes("there is room again, " + i, full.feed(0, 0, 0, 0, 0));
        }
        no("but no more than before", full.feed(0, 0, 0, 0, 0));
    }

    private static int[] many(int count) {
        int[] all = {};
        for (int i = 0; i < count; i++) {
            all = join(all, SENT);
        }
        return all;
    }

    private static void howManyWereAccepted() {
        sentence("how many frames were ACCEPTED by that.");
        for (int count = 0; count <= 10; count++) {
            same("of " + count + " beside the turn", Ground.up(box(), many(count)), Math.min(count, 8));
        }
        Box box = box();
        same("UNLOCK is none", send(box, CONTROL, 0, 0), 0);
        same("SET is none", send(box, CONTROL, 0, 130, 0, 4), 0);
        same("one that is REFUSED is none", send(box, Ground.CONTROL, 0, 0), 0);
        same("one too early is none", send(box, TURN, 5, 1), 0);
        same("one too late is none", send(box, TURN, 3, 1), 0);
        same("one in its turn", send(box, TURN, 4, 1), 1);
        same("one that locks is none", send(box, TURN, 100, 1), 0);
        same("only those of this uplink", send(box, BESIDE, 0, 1), 1);
    }
}
