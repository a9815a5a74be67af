import java.util.Arrays;

/** Promise 7: down, and promise 6's answer and step 9: the frames. */
public final class Promise07DownTest {
    private static final Expect expect = new Expect();

    public static void main(String[] args) {
        nothingBeforeTheFirstTick();
        idleFrames();
        everyByteOfAFrame();
        emptyPacketsFillUp();
        emptyPacketsRunOver();
        emptyPacketsRunOverInChannelOne();
        packetOverManyFrames();
        countsGoRound();
        channelsTakeTurns();
        gateWordGoesDown();
        onlyWhatIsThere();
        expect.end();
    }

    private static int first(int[] frame) {
        return (frame[4] & 7) * 256 + frame[5];
    }

    private static void nothingBeforeTheFirstTick() {
        Box box = new Box(1, 64, 1, 1, 64);
        expect.nothingThere("down before a tick", () -> box.down(0, 0));
    }

    private static void idleFrames() {
        Station s = new Station(1, 70, 2, 1, 64);
        expect.same("none is of another channel", s.tick(), 0);
        for (int f = 0; f < 2; f++) {
            int[] field = new int[58];
            Arrays.fill(field, 85);
            expect.bytes("frame " + f, s.frame(f), Ground.withCheck(Ground.join(
                Ground.row(0x15, 0xAF, f, f, 0x1F, 0xFE), field, Ground.row(1, 0, 0, 0))));
        }
    }

    private static void everyByteOfAFrame() {
        Station s = new Station(1, 64, 1, 1, 64);
        s.tick();
        s.order(17, 1);
        s.order(17, 1);
        expect.same("one frame of channel 0", s.tick(), 1);
        int[] one = Ground.withCheck(8, 42, 0xC0, 0, 0, 12, 32, 17, 2, 0, 0, 0, 0, 0, 0, 0, 2);
        int[] two = Ground.withCheck(8, 42, 0xC0, 1, 0, 12, 32, 17, 2, 0, 1, 0, 0, 0, 0, 0, 2);
        int[] empty = {7, 255, 0xC0, 0, 0, 7, 85, 85, 85, 85, 85, 85, 85, 85};
        expect.bytes("the frame", s.frame(0), Ground.withCheck(Ground.join(Ground.row(0x15, 0xA1, 1, 0, 0x18, 0), one, two,
            empty, Ground.row(1, 0, 2 << 1, 0))));
        expect.same("nothing waits", s.box.value(29), 0);
    }

    private static void emptyPacketsFillUp() {
        for (int length = 64; length <= 256; length += 16) {
            Station s = new Station(1, length, 1, 1, 64);
            s.order(17, 1);
            s.tick();
            int[] due = new int[length - 12 - 19];
            Arrays.fill(due, 85);
            System.arraycopy(Ground.row(7, 255, 0xC0, 0, 0, due.length - 7), 0, due, 0, 6);
            expect.same("one empty packet", s.empties.size(), 1);
            expect.bytes("the empty packet", s.empties.get(0).bytes(), due);
            expect.same("nothing waits", s.box.value(29), 0);
        }
    }

    private static void emptyPacketsRunOver() {
        for (int left = 1; left <= 9; left++) {
            Station s = new Station(1, 64, 1, 1, 64);
            s.order(6, 5, 0, 0, 52 - 22 - left);
            s.tick();
            int over = Math.max(0, 7 - left);
            expect.same("waits, left " + left, s.box.value(29), over);
            expect.same("FIRST", first(s.frame(0)), 0);
            int busy = s.tick();
            expect.same("a frame for what is too much, left " + left, busy, over > 0 ? 1 : 0);
            if (over > 0) {
                expect.same("FIRST behind it", first(s.frame(0)), over);
                expect.same("empty packets", s.empties.size(), 2);
                expect.bytes("the short one", s.empties.get(0).bytes(), 7, 255, 0xC0, 0, 0, 0, 85);
                expect.same("the long one", s.empties.get(1).bytes().length, 52 - over);
                expect.same("nothing waits", s.box.value(29), 0);
            }
        }
        Station s = new Station(1, 64, 1, 1, 64);
        s.order(6, 5, 0, 0, 52 - 22 - 1);
        s.tick();
        s.order(17, 1);
        s.tick();
        expect.same("what was too much is ahead", first(s.frame(0)), 6);
        expect.text("then comes the report", s.told(), "17 2");
        expect.same("then an empty one", s.empties.get(1).bytes().length, 52 - 6 - 19);
    }

    private static void emptyPacketsRunOverInChannelOne() {
        for (int left = 1; left <= 9; left++) {
            Station s = new Station(1, 64, 1, 1, 64);
            s.order(15, 1, 6);
            s.order(6, 5, 0, 0, 52 - 22 - left);
            s.tick();
            s.tick();
            s.order(15, 9, Ground.join(Ground.int4(0), Ground.int4(9)));
            s.tick();
            int over = Math.max(0, 7 - left);
            expect.text("it came, left " + left, s.replayed(), "6 6");
            expect.same("waits, left " + left, s.box.state(0), over);
            expect.same("a frame for what is too much, left " + left, s.tick(), over > 0 ? 1 : 0);
            expect.same("of channel 1, left " + left, s.frame(0)[1], over > 0 ? 0xA3 : 0xAF);
            expect.same("nothing waits, left " + left, s.box.state(0), 0);
        }
    }

    private static void packetOverManyFrames() {
        Station s = new Station(1, 64, 2, 1, 64);
        s.order(6, 5, 0, 0, 52 * 3 - 22);
        s.order(17, 1);
        expect.same("two frames", s.tick(), 2);
        expect.same("FIRST of the first", first(s.frame(0)), 0);
        expect.same("FIRST of the second", first(s.frame(1)), 2047);
        expect.same("waiting", s.box.value(29), 52 + 19);
        expect.same("two frames", s.tick(), 2);
        expect.same("it ends where the field does", first(s.frame(0)), 2047);
        expect.same("so the next begins", first(s.frame(1)), 0);
        expect.text("whole", s.told(), "6 6, 17 2");
        expect.same("with the right check", Ground.check(s.reports.get(0).bytes()), 0);
    }

    private static void countsGoRound() {
        // One form every other tick, in three frames of a tick.
        Station s = new Station(1, 64, 3, 1, 64);
        s.order(3, 1, 1, 2, 1, 17);
        s.order(3, 5, 1);
        int busy = 0;
        for (int t = 0; t < 300; t++) {
            s.box.tick();
            for (int f = 0; f < 3; f++) {
                boolean idle = (s.box.down(f, 1) >>> 1 & 7) == 7;
                expect.same("in all", s.box.down(f, 2), (3 * t + f) % 256);
                expect.same("of its channel", s.box.down(f, 3), (idle ? 3 * t + f - busy : busy) % 256);
                busy += idle ? 0 : 1;
            }
        }
        expect.same("of channel 0", busy, 150);
    }

    private static void channelsTakeTurns() {
        Station s = new Station(1, 64, 4, 1, 1000);
        s.order(15, 1, 17);
        s.order(17, 1);
        s.tick();
        s.order(15, 9, Ground.join(Ground.int4(0), Ground.int4(1)));
        s.order(17, 1);
        expect.same("two are busy", s.tick(), 2);
        int[] channels = {0, 1, 7, 7};
        int[] counts = {1, 0, 3, 4};
        for (int f = 0; f < 4; f++) {
            expect.same("channel of frame " + f, s.frame(f)[1], 0xA1 | channels[f] << 1);
            expect.same("count of frame " + f, s.frame(f)[3], counts[f]);
        }
        expect.same("FIRST of channel 1", first(s.frame(1)), 0);
        expect.text("both came", s.told() + "/" + s.replayed(), "17 2/17 2");
    }

    private static void gateWordGoesDown() {
        Station s = new Station(1, 64, 1, 1, 64);
        Ground.up(s.box, Ground.transmission(Ground.frame(3, 0, 130, 0, 250)));
        Ground.up(s.box, Ground.transmission(Ground.frame(0, 20, 1)));
        s.tick();
        int[] frame = s.frame(0);
        expect.bytes("the word", Arrays.copyOfRange(frame, 58, 62), Ground.int4(s.box.word()));
        expect.bytes("locked", Arrays.copyOfRange(frame, 58, 62), 1, 0, 0x22, 250);
        int[] check = Ground.bytes(Ground.check(Arrays.copyOf(frame, 62)), 2);
        expect.bytes("the check", Arrays.copyOfRange(frame, 62, 64), check);
    }

    private static void onlyWhatIsThere() {
        Box box = new Box(1, 80, 2, 1, 64);
        box.tick();
        int[] wrongFrames = {-1, 2, 3, Integer.MIN_VALUE, Integer.MAX_VALUE};
        int[] wrongBytes = {-1, 80, 81, 256, Integer.MIN_VALUE, Integer.MAX_VALUE};
        for (int f : wrongFrames) {
            expect.nothingThere("frame " + f, () -> box.down(f, 0));
        }
        for (int k : wrongBytes) {
            expect.nothingThere("byte " + k, () -> box.down(0, k));
            expect.nothingThere("byte " + k, () -> box.down(1, k));
        }
        expect.same("the first byte", box.down(0, 0), 21);
        expect.same("the first of the other", box.down(1, 2), 1);
        box.tick();
        expect.same("the latest tick counts", box.down(0, 2), 2);
    }
}
