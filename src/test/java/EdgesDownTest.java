import java.util.Arrays;

/** Edges of GOING DOWN, of promise 6's answer and of promise 7 (down). */
public final class EdgesDownTest extends Edges {
    public static void main(String[] args) {
        nothingWaits();
        idleFrameOfEachLength();
        aByteWaits();
        channelZeroFirst();
        channelsWithinATick();
        countsGoRound();
        countsOfChannelOneGoRound();
        countsOfChannelZeroGoRound();
        fieldIsJustFilled();
        emptyPacketOfWhatIsLeft();
        emptyPacketOfSevenAtLeast();
        tooMuchWaitsAhead();
        tooMuchOfChannelOne();
        aByteWaitsInChannelOne();
        emptyBytesCountAsWaiting();
        longestEmptyPacket();
        firstAtTheBeginning();
        firstAtTheEnd();
        noFirst();
        firstOfAnEmptyPacket();
        wordOfTheGate();
        answerOfATick();
        noFrameBeforeATick();
        noSuchFrame();
        noSuchByte();
        latestTick();
        expect.end();
    }

    private static int first(int[] frame) {
        same("00011", frame[4] >>> 3, 3);
        return (frame[4] & 7) * 256 + frame[5];
    }

    private static int channel(Station s, int f) {
        return s.box.down(f, 1) >>> 1 & 7;
    }

    /** Makes channel 0 wait with this many bytes: a dump has 22 and more. */
    private static void dump(Station s, int bytes) {
        s.order(6, 5, 0, 0, bytes - 22);
    }

    private static int[] emptyPacket(int length) {
        return join(row(7, 255, 0xC0, 0, 0, length - 7), filled(length - 6, 85));
    }

    private static void nothingWaits() {
        sentence("The field of channel 7 is of bytes 85, FIRST 2046.");
        Station s = new Station(1, 70, 2, 1, 64);
        same("none of another channel", s.tick(), 0);
        for (int f = 0; f < 2; f++) {
            bytes("frame " + f, s.frame(f), Ground.withCheck(join(row(0x15, 0xAF, f, f, 0x1F, 0xFE), filled(58, 85),
                row(1, 0, 0, 0))));
        }
    }

    private static void idleFrameOfEachLength() {
        sentence("the FIELD, LENGTH - 12 bytes");
        for (int length : new int[] {64, 65, 255, 256}) {
            Station s = new Station(1, length, 1, 1, 64);
            s.tick();
            bytes("LENGTH " + length, s.frame(0), Ground.withCheck(join(row(0x15, 0xAF, 0, 0, 0x1F, 0xFE),
                filled(length - 12, 85), row(1, 0, 0, 0))));
            s.order(17, 1);
            s.tick();
            int[] report = Ground.withCheck(8, 42, 0xC0, 0, 0, 12, 32, 17, 2, 0, 0, 0, 0, 0, 0, 0, 2);
            bytes("LENGTH " + length + " of channel 0", s.frame(0), Ground.withCheck(join(row(0x15, 0xA1, 1, 0, 0x18, 0),
                report, emptyPacket(length - 12 - 19), row(1, 0, 2, 0))));
        }
    }

    private static void aByteWaits() {
        sentence("of channel 0 if a byte waits there, else of 1 if one does, else of 7.");
        for (int over = 0; over <= 2; over++) {
            Station s = new Station(1, 64, 2, 1, 64);
            dump(s, 52 + over);
            same("busy frames of " + (52 + over) + " bytes", s.tick(), over == 0 ? 1 : 2);
            same("the second is of", channel(s, 1), over == 0 ? 7 : 0);
        }
    }

    private static void channelZeroFirst() {
        sentence("of channel 0 if a byte waits there, else of 1 if one does, else of 7.");
        Station s = new Station(1, 64, 1, 1, 1000);
        s.order(15, 1, 17);
        s.order(17, 1);
        s.tick();
        s.order(15, 9, span(1, 1));
        for (int i = 0; i < 4; i++) {
            s.order(17, 1);
            s.tick();
            same("channel 0 while it has some, " + i, channel(s, 0), 0);
            same("channel 1 waits", s.box.state(0), 19);
        }
        s.tick();
        same("then channel 1", channel(s, 0), 1);
        same("nothing waits there", s.box.state(0), 0);
        s.tick();
        same("then 7", channel(s, 0), 7);
    }

    private static void channelsWithinATick() {
        sentence("As many frames as the box sends a tick, each: of channel 0 if a byte waits there");
        Station s = new Station(1, 64, 4, 1, 1000);
        s.order(15, 1, 6);
        dump(s, 90);
        s.tick();
        s.order(15, 9, span(1, 1));
        s.order(17, 1);
        same("busy", s.tick(), 3);
        int[] channels = {0, 1, 1, 7};
        int[] counts = {2, 0, 1, 2};
        for (int f = 0; f < 4; f++) {
            same("channel of frame " + f, channel(s, f), channels[f]);
            same("frames before " + f, s.box.down(f, 2), 4 + f);
            same("of its channel before " + f, s.box.down(f, 3), counts[f]);
        }
    }

    private static void countsGoRound() {
        sentence("how many frames there were before, how many of that channel (0, 1, 7; 8 bits each, modulo 256)");
        Box box = new Box(1, 64, 3, 1, 64);
        for (int t = 0; t < 180; t++) {
            box.tick();
            for (int f = 0; f < 3; f++) {
                same("in all", box.down(f, 2), (3 * t + f) % 256);
                same("of channel 7", box.down(f, 3), (3 * t + f) % 256);
            }
        }
    }

    private static void countsOfChannelOneGoRound() {
        sentence("how many of that channel (0, 1, 7; 8 bits each, modulo 256)");
        // 52 dumps of 277 bytes come back in frames of 52 bytes: more than 256 of channel 1.
        Station s = new Station(1, 64, 4, 1, 16384);
        s.order(15, 1, 6);
        for (int i = 0; i < 52; i++) {
            dump(s, 277);
            s.box.tick();
        }
        for (int t = 0; t < 40 && s.box.value(29) > 0; t++) {
            s.box.tick();
        }
        s.order(15, 9, span(0, 100));
        int before = 0;
        for (int t = 0; t < 66; t++) {
            s.box.tick();
            for (int f = 0; f < 4; f++) {
                same("channel", channel(s, f), 1);
                same("of channel 1", s.box.down(f, 3), before++ % 256);
            }
        }
        same("more than 256", before, 264);
    }

    private static void countsOfChannelZeroGoRound() {
        sentence("how many of that channel (0, 1, 7; 8 bits each, modulo 256)");
        Station s = new Station(1, 64, 4, 1, 64);
        for (int id = 0; id < 8; id++) {
            s.order(3, 1, join(row(id, 1, 8), filled(8, 17)));
        }
        s.box.tick();
        for (int id = 0; id < 8; id++) {
            s.order(3, 5, id);
        }
        for (int t = 0; t < 70; t++) {
            s.box.tick();
            for (int f = 0; f < 4; f++) {
                same("channel", channel(s, f), 0);
                same("of channel 0", s.box.down(f, 3), (4 * t + f) % 256);
                same("in all", s.box.down(f, 2), (4 + 4 * t + f) % 256);
            }
        }
    }

    private static void fieldIsJustFilled() {
        sentence("where that ends before the field does, an EMPTY packet comes");
        Station s = new Station(1, 64, 1, 1, 64);
        dump(s, 52);
        same("one frame", s.tick(), 1);
        same("no EMPTY packet", s.empties.size(), 0);
        same("nothing waits", s.box.value(29), 0);
        same("the next is of channel 7", s.tick(), 0);
        dump(s, 104);
        same("one frame", s.tick(), 1);
        same("another", s.tick(), 1);
        same("no EMPTY packet", s.empties.size(), 0);
        same("the next is of channel 7", s.tick(), 0);
    }

    private static void emptyPacketOfWhatIsLeft() {
        sentence("as long as what is left of the field, but at least 7");
        for (int left = 7; left <= 29; left++) {
            Station s = new Station(1, 64, 1, 1, 64);
            dump(s, 52 - left);
            s.tick();
            same("one EMPTY packet", s.empties.size(), 1);
            bytes("of " + left, s.empties.get(0).bytes(), emptyPacket(left));
            same("nothing waits", s.box.value(29), 0);
            same("the next is of channel 7", s.tick(), 0);
        }
    }

    private static void emptyPacketOfSevenAtLeast() {
        sentence("as long as what is left of the field, but at least 7; what is too much of it waits then");
        for (int left = 1; left < 7; left++) {
            Station s = new Station(1, 64, 1, 1, 64);
            dump(s, 52 - left);
            s.tick();
            same("what waits, left " + left, s.box.value(29), 7 - left);
            bytes("its beginning", Arrays.copyOfRange(s.frame(0), 58 - left, 58), Arrays.copyOf(emptyPacket(7), left));
            same("another frame of channel 0", s.tick(), 1);
            bytes("the seven", s.empties.get(0).bytes(), 7, 255, 0xC0, 0, 0, 0, 85);
            bytes("and another one", s.empties.get(1).bytes(), emptyPacket(52 - 7 + left));
            same("nothing waits", s.box.value(29), 0);
            same("then channel 7", s.tick(), 0);
        }
    }

    private static void tooMuchWaitsAhead() {
        sentence("what is too much of it waits then, ahead of all that comes there later.");
        for (int left = 1; left < 7; left++) {
            Station s = new Station(1, 64, 1, 1, 64);
            dump(s, 52 - left);
            s.tick();
            s.order(17, 1);
            s.tick();
            text("the report behind it", s.told(), "17 2");
            same("FIRST, left " + left, first(s.frame(0)), 7 - left);
            bytes("the seven are whole", s.empties.get(0).bytes(), emptyPacket(7));
            bytes("what is left", s.empties.get(1).bytes(), emptyPacket(52 - 7 + left - 19));
        }
    }

    private static void tooMuchOfChannelOne() {
        sentence("what is too much of it waits then, ahead of all that comes there later.");
        for (int left = 1; left <= 8; left++) {
            Station s = new Station(1, 64, 1, 1, 1000);
            s.order(15, 1, 6);
            dump(s, 52 - left);
            ticks(s, 2);
            s.order(15, 9, span(0, 9));
            s.tick();
            text("it came back, left " + left, s.replayed(), "6 6");
            same("what waits, left " + left, s.box.state(0), Math.max(0, 7 - left));
            same("not in channel 0", s.box.value(29), 0);
            s.order(15, 9, span(0, 9));
            same("a frame", s.tick(), 1);
            same("FIRST, left " + left, first(s.frame(0)), Math.max(0, 7 - left));
            same("of channel 1", channel(s, 0), 1);
        }
    }

    private static void aByteWaitsInChannelOne() {
        sentence("else of 1 if one does, else of 7.");
        for (int left = 1; left <= 8; left++) {
            Station s = new Station(1, 64, 1, 1, 1000);
            s.order(15, 1, 6);
            dump(s, 52 - left);
            ticks(s, 2);
            s.order(15, 9, span(0, 9));
            s.tick();
            same("what waits, left " + left, s.box.state(0), Math.max(0, 7 - left));
            same("busy, left " + left, s.tick(), left < 7 ? 1 : 0);
            same("the channel, left " + left, channel(s, 0), left < 7 ? 1 : 7);
            same("nothing waits", s.box.state(0), 0);
        }
    }

    private static void emptyBytesCountAsWaiting() {
        sentence("29 bytes that wait in channel 0 (also of EMPTY packets)");
        Station s = new Station(1, 64, 1, 1, 64);
        dump(s, 51);
        s.tick();
        same("six of an EMPTY packet", s.box.value(29), 6);
        s.order(3, 1, 1, 99, 1, 29);
        s.order(3, 27, 1);
        s.tick();
        bytes("they are reported", s.reports.get(0).data(), 1, 0, 0, 0, 6);
    }

    private static void longestEmptyPacket() {
        sentence("an EMPTY packet comes, 00000, 2047 (11 bits), 11, 0 (14), how many bytes are behind these six, less one");
        Station s = new Station(1, 256, 1, 1, 64);
        dump(s, 244 - 6);
        s.tick();
        same("one byte of seven waits", s.box.value(29), 1);
        s.tick();
        bytes("the longest", s.empties.get(1).bytes(), emptyPacket(243));
    }

    private static void firstAtTheBeginning() {
        sentence("FIRST is the place in the field, from 0 on, of the first byte that begins a packet");
        Station s = new Station(1, 64, 1, 1, 64);
        s.order(17, 1);
        s.order(17, 1);
        s.tick();
        same("the first of three", first(s.frame(0)), 0);
        dump(s, 52);
        s.order(17, 1);
        s.tick();
        same("one that fills the field", first(s.frame(0)), 0);
        s.tick();
        same("the one behind it", first(s.frame(0)), 0);
    }

    private static void firstAtTheEnd() {
        sentence("FIRST is the place in the field, from 0 on, of the first byte that begins a packet");
        for (int place : new int[] {1, 2, 30, 50, 51}) {
            Station s = new Station(1, 64, 1, 1, 64);
            dump(s, 52 + place);
            s.order(17, 1);
            s.tick();
            s.tick();
            same("at " + place, first(s.frame(0)), place);
        }
        Station large = new Station(1, 256, 1, 1, 64);
        dump(large, 270);
        dump(large, 217);
        large.order(17, 1);
        large.tick();
        large.tick();
        same("the first of two", first(large.frame(0)), 26);
        Station last = new Station(1, 256, 1, 1, 64);
        dump(last, 277);
        dump(last, 200);
        dump(last, 254);
        last.order(17, 1);
        ticks(last, 3);
        same("the last byte of the largest field", first(last.frame(0)), 243);
    }

    private static void noFirst() {
        sentence("2047 if none does.");
        Station s = new Station(1, 64, 1, 1, 64);
        dump(s, 52 * 4);
        s.order(17, 1);
        s.tick();
        same("it begins", first(s.frame(0)), 0);
        for (int i = 0; i < 3; i++) {
            s.tick();
            same("it goes on, and fills it at last", first(s.frame(0)), 2047);
        }
        s.tick();
        same("the next begins", first(s.frame(0)), 0);
    }

    private static void firstOfAnEmptyPacket() {
        sentence("of the first byte that begins a packet (an EMPTY one, too)");
        for (int place : new int[] {1, 20, 44, 45, 46, 51}) {
            Station s = new Station(1, 64, 1, 1, 64);
            dump(s, 52 + place);
            s.tick();
            s.tick();
            same("the EMPTY one at " + place, first(s.frame(0)), place);
        }
    }

    private static void wordOfTheGate() {
        sentence("the WORD OF THE GATE; the CHECK of all before it.");
        Station s = new Station(1, 64, 2, 1, 64);
        send(s.box, CONTROL, 0, 130, 0, 255);
        send(s.box, TURN, 100, 1);
        s.tick();
        for (int f = 0; f < 2; f++) {
            int[] frame = s.frame(f);
            bytes("locked, frame " + f, Arrays.copyOfRange(frame, 58, 62), 1, 0, 0x22, 255);
            same("the CHECK, frame " + f, Ground.check(frame), 0);
        }
        Station waits = new Station(1, 64, 1, 1, 64);
        for (int i = 0; i < 9; i++) {
            send(waits.box, TURN, i, 1);
        }
        same("it waits", waits.box.value(18), 2);
        waits.tick();
        bytes("as it is behind step 3", Arrays.copyOfRange(waits.frame(0), 58, 62), 1, 0, 8, 8);
    }

    private static void answerOfATick() {
        sentence("A tick: how many frames went down that are not of channel 7.");
        for (int frames = 1; frames <= 4; frames++) {
            for (int packets = 0; packets <= 5; packets++) {
                Station s = new Station(1, 64, frames, 1, 64);
                for (int i = 0; i < packets; i++) {
                    dump(s, 52);
                }
                same(packets + " fields in " + frames, s.tick(), Math.min(frames, packets));
            }
        }
    }

    private static void noFrameBeforeATick() {
        sentence("of those that went down with the latest tick; NoSuchElementException if there is none such.");
        Box box = new Box(1, 64, 4, 1, 64);
        for (int f = 0; f < 4; f++) {
            int frame = f;
            nothingThere("frame " + f, () -> box.down(frame, 0));
        }
        box.uplink();
        box.sense(0, 1);
        nothingThere("other calls bring none", () -> box.down(0, 0));
    }

    private static void noSuchFrame() {
        sentence("Byte k of frame f, from 0 on ... NoSuchElementException if there is none such.");
        for (int frames = 1; frames <= 4; frames++) {
            Box box = new Box(1, 64, frames, 1, 64);
            box.tick();
            same("the last", box.down(frames - 1, 0), 0x15);
            for (int f : new int[] {-1, frames, frames + 1, 4, 5, LEAST, LARGEST}) {
                nothingThere("frame " + f + " of " + frames, () -> box.down(f, 0));
            }
        }
    }

    private static void noSuchByte() {
        sentence("Byte k of frame f, from 0 on ... NoSuchElementException if there is none such.");
        for (int length : new int[] {64, 80, 256}) {
            Box box = new Box(1, length, 2, 1, 64);
            box.tick();
            for (int f = 0; f < 2; f++) {
                int frame = f;
                same("the first", box.down(f, 0), 0x15);
                int[] idle = Ground.withCheck(join(row(0x15, 0xAF, f, f, 0x1F, 0xFE), filled(length - 12, 85), row(1, 0, 0, 0)));
                same("the last", box.down(f, length - 1), idle[length - 1]);
                for (int k : new int[] {-1, length, length + 1, 257, LEAST, LARGEST}) {
                    nothingThere("byte " + k + " of " + length, () -> box.down(frame, k));
                }
            }
        }
    }

    private static void latestTick() {
        sentence("of those that went down with the latest tick");
        Station s = new Station(1, 64, 1, 1, 64);
        s.order(17, 1);
        s.tick();
        same("channel 0", channel(s, 0), 0);
        s.order(17, 1);
        same("other calls leave it", channel(s, 0), 0);
        ticks(s, 2);
        same("channel 7", channel(s, 0), 7);
        same("its count", s.box.down(0, 2), 2);
    }
}
