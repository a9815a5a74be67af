/** Edges of REPORT: its counts, the room of channel 0, and what is stored. */
public final class EdgesReportsTest extends Edges {
    public static void main(String[] args) {
        shortestAndLongest();
        countInAll();
        countInAllGoesRound();
        countOfItsKind();
        lostOnesCount();
        clockOfEach();
        justRoomInTheChannel();
        fullChannel();
        emptyBytesTakeRoom();
        shorterOnesBehindALostOne();
        lostOnesAreStored();
        storedFromItsCommandOn();
        noSuchServiceToStore();
        storedOnceMore();
        oldestGoUntilThereIsRoom();
        noneGoesWhereThereIsRoom();
        longerThanTheStore();
        asLongAsTheStore();
        expect.end();
    }

    private static void shortestAndLongest() {
        sentence("how many bytes are behind these six, less one (16)");
        Station s = new Station();
        s.tryOut(17, 1);
        bytes("without data", s.reports.get(0).bytes(), Ground.withCheck(8, 42, 0xC0, 0, 0, 12, 32, 17, 2, 0, 0, 0, 0,
            0, 0, 0, 1));
        s.tryOut(6, 5, 0, 0, 255);
        int[] dump = s.reports.get(0).bytes();
        same("the longest", dump.length, 277);
        same("what it says of itself", dump[4] * 256 + dump[5], 277 - 7);
        same("its CHECK", Ground.check(dump), 0);
    }

    private static void countInAll() {
        sentence("how many there were before (14 bits, modulo 16384)");
        Station s = new Station();
        int before = 0;
        for (int t = 0; t < 12; t++) {
            s.sendPacket(Ground.command(1, 15, t % 2 == 0 ? 17 : 3, t % 2 == 0 ? 1 : 5, t % 2 == 0 ? row() : row(1)));
            s.tick();
            for (Station.Report r : s.reports) {
                same("before " + r.service() + " " + r.kind(), r.number(), before++);
            }
        }
        same("all of them", before, 6 * 4 + 6 * 2);
    }

    /** Event 2 raises itself by a command with three wishes: 256 reports a tick, and one of the 64 events is lost. */
    private static Station withLoop() {
        Station s = new Station(1, 256, 4, 1, 64);
        s.order(19, 1, action(2, Ground.command(1, 11, 8, 1, raise(2, 0))));
        s.order(19, 4, 2);
        return s;
    }

    private static void loop(Station s, int ticks) {
        for (int t = 0; t < ticks; t++) {
            s.order(8, 1, raise(2, 0));
            s.tick();
        }
    }

    private static void countInAllGoesRound() {
        sentence("how many there were before (14 bits, modulo 16384)");
        // The store keeps the latest two, for the channel has no room when they are made.
        Station s = withLoop();
        loop(s, 63);
        yes("some were lost", s.box.value(27) > 10000);
        s.order(15, 1, 1);
        loop(s, 1);
        s.order(15, 2, 1);
        s.order(15, 1, 17);
        s.order(17, 1);
        s.tick();
        same("a 1 7 and the test are stored", s.box.value(28), 2);
        s.order(15, 9, span(0, 1000));
        for (int t = 0; t < 9 && s.replay.isEmpty(); t++) {
            s.tick();
        }
        text("they come back", s.replayed(), "1 7, 17 2");
        same("the first had the most before it", s.replay.get(0).number(), 16383);
        same("the second begins again", s.replay.get(1).number(), 0);
        same("of 1 7 there were as many as were handled", s.replay.get(0).series(), 64 * 64 - 1);
        same("of 17 2 there were none", s.replay.get(1).series(), 0);
    }

    private static void countOfItsKind() {
        sentence("how many s k there were before (16, modulo 65536)");
        Station s = new Station();
        for (int i = 0; i < 5; i++) {
            s.order(17, 1);
            s.order(6, 5, 0, 0, 1);
            s.order(6, 9, 0, 0, 0, 1);
            s.order(8, 1, raise(8 * (i % 4), 0));
            s.tick();
            for (Station.Report r : s.reports) {
                same("of " + r.service() + " " + r.kind(), r.series(), r.service() == 5 ? i / 4 : i);
            }
        }
        Station many = withLoop();
        loop(many, 5);
        ticks(many, 9);
        many.tryOut(8, 1, raise(3, 0));
        same("more than a byte holds", many.reports.get(0).series(), 5 * 64);
    }

    private static void lostOnesCount() {
        sentence("(Those that were lost count as those before, too.)");
        Station s = withLoop();
        loop(s, 4);
        int lost = s.box.value(27);
        yes("some were lost", lost > 400);
        ticks(s, 12);
        s.tryOut(17, 1);
        same("in all", s.reports.get(0).number(), 4 * 256);
        s.tryOut(8, 1, raise(3, 0));
        same("of 5 1", s.reports.get(0).series(), 4 * 64);
    }

    private static void clockOfEach() {
        sentence("the CLOCK (32), the data");
        Station s = new Station(1, 64, 1, 1, 64);
        for (int t = 1; t < 300; t++) {
            s.box.tick();
        }
        s.tryOut(17, 1);
        same("more than a byte holds", s.reports.get(0).clock(), 300);
    }

    private static void justRoomInTheChannel() {
        sentence("If channel 0 has room for it, it comes behind what waits there; else it is lost there.");
        for (int over = -1; over <= 1; over++) {
            Station s = nearlyFull();
            int free = 4096 - s.box.value(29);
            s.order(6, 5, 0, 0, free - 22 + over);
            s.box.tick();
            same("lost, longer than the room by " + over, s.box.value(27), over > 0 ? 1 : 0);
            same("waiting, longer by " + over, s.box.value(29), (over > 0 ? 4096 - free : 4096 + over) - 52);
        }
    }

    /** With room for less than a long report in channel 0, of which 52 bytes go down with a tick. */
    private static Station nearlyFull() {
        Station s = new Station(1, 64, 1, 1, 64);
        for (int i = 0; i < 7; i++) {
            s.order(6, 5, 0, 0, 255);
        }
        s.box.tick();
        for (int i = 0; i < 7; i++) {
            s.order(6, 5, 0, 0, 255);
        }
        s.order(6, 5, 0, 0, 100);
        s.box.tick();
        same("what waits", s.box.value(29), 14 * 277 + 122 - 2 * 52);
        return s;
    }

    /** With a command in the queue that fills channel 0 to its last byte. */
    private static Station filledToTheBrim() {
        Station s = nearlyFull();
        s.order(6, 5, 0, 0, 4096 - s.box.value(29) - 22);
        return s;
    }

    private static void fullChannel() {
        sentence("Channels 0 and 1 are rows of at most 4,096 bytes that wait.");
        Station s = filledToTheBrim();
        s.order(17, 1);
        s.order(17, 1);
        s.box.tick();
        same("both behind it are lost", s.box.value(27), 2);
        same("full but for the frame", s.box.value(29), 4096 - 52);
    }

    private static void emptyBytesTakeRoom() {
        sentence("Channels 0 and 1 are rows of at most 4,096 bytes that wait.");
        for (int left = 1; left <= 7; left++) {
            Station s = new Station(1, 64, 1, 1, 64);
            s.order(19, 1, action(2, Ground.command(1, 11, 8, 1, raise(2, 0))));
            s.order(19, 4, 2);
            s.order(6, 5, 0, 0, 52 - left - 22);
            s.box.tick();
            same("of the EMPTY packet wait", s.box.value(29), 7 - left);
            s.order(8, 1, raise(2, 0));
            s.box.tick();
            int waiting = 7 - left;
            int lost = 0;
            for (int i = 0; i < 64 * 4; i++) {
                int length = i % 4 == 0 ? 24 : 23;
                lost += waiting + length > 4096 ? 1 : 0;
                waiting += waiting + length > 4096 ? 0 : length;
            }
            same("lost, left " + left, s.box.value(27), lost);
            same("waiting, left " + left, s.box.value(29), waiting - 52);
        }
    }

    private static void shorterOnesBehindALostOne() {
        sentence("If channel 0 has room for it, it comes behind what waits there; else it is lost there.");
        Station s = filledToTheBrim();
        s.box.tick();
        same("52 bytes are free", s.box.value(29), 4096 - 52);
        s.order(6, 5, 0, 0, 31);
        s.order(17, 1);
        s.order(6, 5, 0, 0, 12);
        s.order(6, 5, 0, 0, 11);
        s.box.tick();
        same("53 bytes are lost, and 34 behind 19, but not 33", s.box.value(27), 2);
        same("full but for the frame", s.box.value(29), 4096 - 52);
    }

    private static void lostOnesAreStored() {
        sentence("It is stored, lost or not, if its service is");
        Station s = filledToTheBrim();
        s.order(15, 1, 17);
        s.order(17, 1);
        s.box.tick();
        same("lost", s.box.value(27), 1);
        same("stored", s.box.value(28), 1);
        same("its bytes", s.box.state(3), 19);
        s.order(17, 1);
        s.box.tick();
        same("not lost", s.box.value(27), 1);
        same("stored", s.box.value(28), 2);
    }

    private static void storedFromItsCommandOn() {
        sentence("15 1, 15 2: s (1): REPORTS of service s are stored, are not (none are at first)");
        Station s = new Station();
        s.sendPacket(Ground.command(1, 15, 17, 1));
        s.tick();
        same("none at first", s.box.value(28), 0);
        s.sendPacket(Ground.command(1, 15, 15, 1, 1));
        s.tick();
        same("1 7 of the very command, not 1 1 and 1 3", s.box.value(28), 1);
        s.sendPacket(Ground.command(1, 15, 15, 2, 1));
        s.tick();
        same("1 1 and 1 3 of the other, not 1 7", s.box.value(28), 3);
        s.sendPacket(Ground.command(1, 15, 17, 1));
        s.tick();
        same("none any more", s.box.value(28), 3);
    }

    private static void noSuchServiceToStore() {
        sentence("32 (s above 31)");
        Station s = new Station();
        for (int kind = 1; kind <= 2; kind++) {
            same("15 " + kind + " of 0", s.tryOut(15, kind, 0), 0);
            same("15 " + kind + " of 31", s.tryOut(15, kind, 31), 0);
            same("15 " + kind + " of 32", s.tryOut(15, kind, 32), 32);
            same("15 " + kind + " of 33", s.tryOut(15, kind, 33), 32);
            same("15 " + kind + " of 255", s.tryOut(15, kind, 255), 32);
        }
        s.order(15, 1, 32 + 17);
        s.order(17, 1);
        s.tick();
        same("nothing is stored by that", s.box.value(28), 0);
    }

    private static void storedOnceMore() {
        sentence("(What is on or off already may be told so once more");
        Station s = new Station();
        same("not stored already", s.tryOut(15, 2, 17), 0);
        same("stored", s.tryOut(15, 1, 17), 0);
        same("stored already", s.tryOut(15, 1, 17), 0);
        s.tryOut(17, 1);
        same("once", s.box.value(28), 1);
        same("not stored", s.tryOut(15, 2, 17), 0);
        same("not stored already", s.tryOut(15, 2, 17), 0);
        s.tryOut(17, 1);
        same("the one stays", s.box.value(28), 1);
    }

    private static void oldestGoUntilThereIsRoom() {
        sentence("the oldest ones of THE STORE go until it has room");
        // Three tests of 19 bytes in 64; a dump of 22 + n needs the place of one, two or all.
        int[][] bytesAndLeft = {{23, 2}, {26, 2}, {27, 1}, {45, 1}, {46, 0}, {64, 0}};
        for (int[] pair : bytesAndLeft) {
            Station s = new Station(1, 256, 4, 1, 64);
            s.order(15, 1, 17);
            s.order(15, 1, 6);
            s.tick();
            for (int t = 2; t <= 4; t++) {
                s.tryOut(17, 1);
            }
            same("three tests", s.box.state(3), 57);
            s.tryOut(6, 5, 0, 0, pair[0] - 22);
            same("packets with one of " + pair[0], s.box.value(28), pair[1] + 1);
            same("bytes with one of " + pair[0], s.box.state(3), 19 * pair[1] + pair[0]);
            s.tryOut(15, 9, span(0, 100));
            same("packets that come back", s.replay.size(), pair[1] + 1);
            same("the oldest that is left", s.replay.get(0).clock(), 5 - pair[1]);
        }
    }

    private static void noneGoesWhereThereIsRoom() {
        sentence("the oldest ones of THE STORE go until it has room");
        for (int n = 1; n <= 3; n++) {
            Station s = new Station(1, 256, 4, 1, 64);
            s.order(15, 1, 17);
            s.order(15, 1, 6);
            s.order(17, 1);
            s.order(6, 5, 0, 0, n + 21);
            s.tick();
            same("packets, " + (19 + n + 43) + " bytes", s.box.value(28), n <= 2 ? 2 : 1);
            same("bytes", s.box.state(3), n <= 2 ? 19 + n + 43 : n + 43);
        }
    }

    private static void longerThanTheStore() {
        sentence("(unless it is longer than the store: then it is not stored, and none goes)");
        Station s = new Station(1, 256, 4, 1, 64);
        s.order(15, 1, 17);
        s.order(15, 1, 6);
        s.order(17, 1);
        s.order(17, 1);
        s.order(6, 5, 0, 0, 43);
        s.tick();
        text("it goes down", s.told(), "17 2, 17 2, 6 6");
        same("65 bytes are not stored", s.box.value(28), 2);
        same("none goes", s.box.state(3), 38);
        s.tryOut(6, 5, 0, 0, 255);
        same("nor are 277", s.box.state(3), 38);
    }

    private static void asLongAsTheStore() {
        sentence("(unless it is longer than the store: then it is not stored, and none goes)");
        Station s = new Station(1, 256, 4, 1, 64);
        s.order(15, 1, 17);
        s.order(15, 1, 6);
        s.order(17, 1);
        s.order(6, 5, 0, 0, 42);
        s.tick();
        same("64 bytes are stored", s.box.value(28), 1);
        same("all else goes", s.box.state(3), 64);
        s.tryOut(15, 9, span(0, 100));
        text("it comes back", s.replayed(), "6 6");
        s.tryOut(17, 1);
        same("it goes for a shorter one", s.box.state(3), 19);
    }
}
