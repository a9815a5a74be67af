import java.util.Arrays;

/** Edges of COMMAND: each FAULT at its boundary, which of several is told, and the WISHES. */
public final class EdgesCommandTest extends Edges {
    /** SERVICE, KIND, and the length that the DATA must have. */
    private static final int[][] LENGTHS = {{3, 3, 1}, {3, 5, 1}, {3, 6, 1}, {3, 27, 1}, {5, 5, 1}, {5, 6, 1}, {6, 5, 3},
        {6, 9, 4}, {8, 1, 6}, {11, 1, 0}, {11, 2, 0}, {11, 3, 0}, {11, 5, 2}, {11, 15, 4}, {11, 17, 0}, {12, 1, 1},
        {12, 2, 1}, {12, 5, 13}, {12, 6, 1}, {15, 1, 1}, {15, 2, 1}, {15, 9, 8}, {15, 11, 4}, {15, 12, 0}, {17, 1, 0},
        {19, 2, 1}, {19, 4, 1}, {19, 5, 1}};

    public static void main(String[] args) {
        lessThanThirteenBytes();
        notAsManyAsItSays();
        checkIsNotZero();
        oneOfTheBits();
        numberIsNot42();
        versionIsNot2();
        noSuchServiceAndKind();
        anotherLength();
        lengthByItsN();
        noNThere();
        commandInTheData();
        firstOfTheFaults();
        bytesThatItLacks();
        faultDoesNothing();
        wishesWithoutFailure();
        wishesWithFailure();
        wishesWithFault();
        sixteenBitsThatMeanNothing();
        everyNumber();
        countedWhileHandled();
        handledInOrder();
        expect.end();
    }

    private static int faultOf(int... packet) {
        Station s = new Station();
        same("the packet came", s.sendPacket(packet), 1);
        s.tick();
        for (Station.Report r : s.reports) {
            if (r.service() == 1 && r.kind() == 2) {
                same("handled", s.box.value(25), 1);
                same("with a FAULT", s.box.value(26), 1);
                return r.data()[4] * 256 + r.data()[5];
            }
        }
        return 0;
    }

    private static int[] changed(int at, int bits) {
        int[] packet = Ground.command(3, 15, 17, 1);
        packet[at] ^= bits;
        return Ground.rechecked(packet);
    }

    private static void lessThanThirteenBytes() {
        sentence("1: it has less than 13 bytes, or not as many as it says");
        for (int length = 1; length < 13; length++) {
            int[] head = {0x18, 42, 0xC0, 0, 0, Math.max(0, length - 7), 0x20, 17, 1, 0, 0};
            same(length + " bytes", faultOf(Arrays.copyOf(head, length)), 1);
            if (length > 7) {
                same(length + " bytes with a CHECK", faultOf(Ground.withCheck(Arrays.copyOf(head, length - 2))), 1);
            }
        }
        same("13 bytes", faultOf(command(1, 17, 1)), 0);
    }

    private static void notAsManyAsItSays() {
        sentence("1: it has less than 13 bytes, or not as many as it says");
        for (int says : new int[] {0, 1, 5, 7, 8, 255, 256 + 6, 512 + 6, 32768 + 6, 65535}) {
            int[] packet = Ground.command(3, 15, 17, 1);
            packet[4] = says >>> 8;
            packet[5] = says & 255;
            same("it says " + says, faultOf(Ground.rechecked(packet)), 1);
        }
        same("6 is right", faultOf(Ground.command(3, 15, 17, 1)), 0);
        same("a byte behind it", faultOf(join(Ground.command(3, 15, 17, 1), row(0))), 1);
        same("its last byte is missing", faultOf(Arrays.copyOf(Ground.command(3, 0, 3, 5, 1), 13)), 1);
    }

    private static void checkIsNotZero() {
        sentence("2: its CHECK is not 0");
        int[] packet = Ground.command(3, 15, 3, 5, 1);
        for (int bit = 0; bit < 8 * packet.length; bit++) {
            if (bit / 8 != 4 && bit / 8 != 5) {
                same("bit " + bit, faultOf(Ground.turned(packet, bit)), 2);
            }
        }
    }

    private static void oneOfTheBits() {
        sentence("3: one of the bits 000 1 1 or 11 is not so");
        for (int bit = 8; bit < 256; bit *= 2) {
            same("000 1 1, " + bit, faultOf(changed(0, bit)), 3);
        }
        same("11, the first", faultOf(changed(2, 128)), 3);
        same("11, the second", faultOf(changed(2, 64)), 3);
        same("11, both", faultOf(changed(2, 192)), 3);
    }

    private static void numberIsNot42() {
        sentence("4: the number is not 42");
        for (int number : new int[] {0, 41, 43, 42 + 256, 42 + 512, 42 + 1024, 2047}) {
            int[] packet = Ground.command(3, 15, 17, 1);
            packet[0] = 0x18 | number >>> 8;
            packet[1] = number & 255;
            same("the number " + number, faultOf(Ground.rechecked(packet)), 4);
        }
        for (int bit = 1; bit < 256; bit *= 2) {
            same("bit " + bit, faultOf(changed(1, bit)), 4);
        }
    }

    private static void versionIsNot2() {
        sentence("5: 0010 is not so");
        for (int four = 0; four < 16; four++) {
            int[] packet = Ground.command(3, 15, 17, 1);
            packet[6] = four * 16 | 15;
            same("the four bits " + four, faultOf(Ground.rechecked(packet)), four == 2 ? 0 : 5);
        }
    }

    private static boolean isThere(int service, int kind) {
        for (int[] known : LENGTHS) {
            if (known[0] == service && known[1] == kind) {
                return true;
            }
        }
        int code = service * 256 + kind;
        return code == 3 * 256 + 1 || code == 6 * 256 + 2 || code == 11 * 256 + 4 || code == 19 * 256 + 1;
    }

    private static void noSuchServiceAndKind() {
        sentence("6: there is no such SERVICE and KIND");
        for (int service : new int[] {0, 1, 2, 3, 4, 5, 6, 7, 8, 9, 10, 11, 12, 13, 14, 15, 16, 17, 18, 19, 20, 32, 128, 255}) {
            for (int kind = 0; kind < 34; kind++) {
                boolean is6 = faultOf(command(1, service, kind, filled(20, 0))) == 6;
                same(service + " " + kind, is6 ? 0 : 1, isThere(service, kind) ? 1 : 0);
            }
            same(service + " 255", faultOf(command(1, service, 255)), 6);
        }
    }

    private static void anotherLength() {
        sentence("7: the DATA has another length than it must have ... What has no DATA wants none.");
        for (int[] known : LENGTHS) {
            String kind = known[0] + " " + known[1];
            for (int length = 0; length <= known[2] + 2; length++) {
                int fault = faultOf(command(1, known[0], known[1], filled(length, 0)));
                same(kind + " with " + length, fault, length == known[2] ? 0 : 7);
            }
            same(kind + " with 230", faultOf(command(1, known[0], known[1], filled(230, 0))), 7);
        }
    }

    private static void lengthByItsN() {
        sentence("7: the DATA has another length than it must have (by the n that stands there, if there is one)");
        for (int[] kind : new int[][] {{3, 1}, {6, 2}}) {
            for (int n : new int[] {0, 1, 2, 8, 9, 100, 235, 236, 237, 255}) {
                for (int length : new int[] {3, 3 + n - 1, 3 + n, 3 + n + 1}) {
                    if (length >= 3 && length <= 252 - 13) {
                        int[] data = filled(length, 1);
                        data[2] = n;
                        boolean right = length == 3 + n;
                        same(kind[0] + " " + kind[1] + ", n " + n + ", length " + length,
                            faultOf(command(1, kind[0], kind[1], data)), right ? 0 : 7);
                    }
                }
            }
        }
    }

    private static void noNThere() {
        sentence("7: the DATA has another length than it must have (by the n that stands there, if there is one)");
        for (int length = 0; length < 3; length++) {
            same("3 1 with " + length, faultOf(command(1, 3, 1, filled(length, 0))), 7);
            same("6 2 with " + length, faultOf(command(1, 6, 2, filled(length, 0))), 7);
        }
    }

    private static void commandInTheData() {
        sentence("Where a command is in the DATA, that has 13 bytes or more behind what is said.");
        for (int behind = 0; behind < 30; behind++) {
            same("11 4 and " + behind, faultOf(command(1, 11, 4, filled(4 + behind, 0))), behind < 13 ? 7 : 0);
            same("19 1 and " + behind, faultOf(command(1, 19, 1, filled(1 + behind, 0))), behind < 13 ? 7 : 0);
        }
        for (int length = 0; length < 4; length++) {
            same("11 4 with " + length, faultOf(command(1, 11, 4, filled(length, 0))), 7);
        }
        same("19 1 with none", faultOf(command(1, 19, 1)), 7);
        same("11 4 with the most", faultOf(command(1, 11, 4, filled(252 - 13, 0))), 0);
        same("19 1 with the most", faultOf(command(1, 19, 1, filled(252 - 13, 0))), 0);
    }

    /** A command that has all these faults, but for 6, which it has instead of 7. */
    private static int[] with(boolean[] faults) {
        int[] data = faults[7] ? row(1) : row();
        int[] packet = Ground.command(3, 15, faults[6] ? 99 : 17, 1, data);
        packet[0] ^= faults[3] ? 0x80 : 0;
        packet[1] ^= faults[4] ? 1 : 0;
        packet[6] ^= faults[5] ? 0x10 : 0;
        packet[5] ^= faults[1] ? 1 : 0;
        packet = Ground.rechecked(packet);
        packet[packet.length - 1] ^= faults[2] ? 1 : 0;
        return packet;
    }

    private static void firstOfTheFaults() {
        sentence("the first of these that is so is its FAULT");
        for (int set = 0; set < 128; set++) {
            boolean[] faults = new boolean[8];
            int first = 0;
            for (int i = 7; i >= 1; i--) {
                faults[i] = (set >>> i - 1 & 1) == 1;
                first = faults[i] ? i : first;
            }
            same("of " + Arrays.toString(faults), faultOf(with(faults)), first);
        }
    }

    private static void bytesThatItLacks() {
        sentence("a REPORT 1 2 is made of its first four bytes (0 for those that it lacks) and the FAULT (2 bytes)");
        for (int length = 1; length <= 12; length++) {
            Station s = new Station();
            // A longer one comes first, so that nothing of it may be left.
            s.sendPacket(filled(40, 255));
            s.sendPacket(filled(length, 200));
            s.tick();
            text("two faults, " + length, s.told(), "1 2, 1 2");
            int[] due = {200, length > 1 ? 200 : 0, length > 2 ? 200 : 0, length > 3 ? 200 : 0, 0, 1};
            bytes(length + " bytes", s.reports.get(1).data(), due);
        }
    }

    private static void faultDoesNothing() {
        sentence("With a FAULT a REPORT 1 2 is made");
        Station s = new Station();
        int[] packet = Ground.command(3, 15, 6, 2, 0, 0, 1, 77);
        packet[packet.length - 1] ^= 1;
        s.sendPacket(packet);
        s.tick();
        text("no other report", s.told(), "1 2");
        same("it is not done", s.box.memory(0), 0);
    }

    private static void wishesWithoutFailure() {
        sentence("if WISHES has 1, a REPORT 1 1 ... if WISHES has 2, a REPORT 1 3 ... it is done; if WISHES has 8, a REPORT 1 7");
        for (int wishes = 0; wishes < 16; wishes++) {
            Station s = new Station();
            s.sendPacket(Ground.command(0x1234, wishes, 17, 1));
            s.tick();
            String due = ((wishes & 1) != 0 ? "1 1, " : "") + ((wishes & 2) != 0 ? "1 3, " : "") + "17 2"
                + ((wishes & 8) != 0 ? ", 1 7" : "");
            text("WISHES " + wishes, s.told(), due);
            for (Station.Report r : s.reports) {
                bytes("data, WISHES " + wishes, r.data(), r.service() == 17 ? row() : row(0x18, 42, 0xD2, 0x34));
            }
            same("without a FAULT or FAILURE", s.box.value(26), 0);
        }
    }

    private static void wishesWithFailure() {
        sentence("with a FAILURE, the first that is told below, nothing is done, and a REPORT 1 4 is made");
        for (int wishes = 0; wishes < 16; wishes++) {
            Station s = new Station();
            s.sendPacket(Ground.command(7, wishes, 6, 2, 16, 0, 1, 99));
            s.tick();
            text("WISHES " + wishes, s.told(), (wishes & 1) != 0 ? "1 1, 1 4" : "1 4");
            bytes("data, WISHES " + wishes, s.reports.get(wishes & 1).data(), 0x18, 42, 0xC0, 7, 0, 17);
            same("with a FAILURE", s.box.value(26), 1);
        }
    }

    private static void wishesWithFault() {
        sentence("With a FAULT a REPORT 1 2 is made of its first four bytes ... Else, if WISHES has 1");
        for (int wishes = 0; wishes < 16; wishes++) {
            Station s = new Station();
            s.sendPacket(Ground.command(7, wishes, 17, 1, 0));
            s.tick();
            text("WISHES " + wishes, s.told(), "1 2");
            bytes("data, WISHES " + wishes, s.reports.get(0).data(), 0x18, 42, 0xC0, 7, 0, 7);
        }
    }

    private static void sixteenBitsThatMeanNothing() {
        sentence("16 bits that mean nothing");
        for (int bits : new int[] {0, 1, 255, 256, 32768, 65535}) {
            int[] packet = command(1, 17, 1);
            packet[9] = bits >>> 8;
            packet[10] = bits & 255;
            same("the bits " + bits, faultOf(Ground.rechecked(packet)), 0);
        }
    }

    private static void everyNumber() {
        sentence("11, ITS NUMBER (14)");
        for (int number : new int[] {0, 1, 255, 256, 8191, 8192, 16383}) {
            Station s = new Station();
            s.sendPacket(tellingTest(number));
            s.tick();
            text("the number " + number, done(s), number + " ");
        }
    }

    private static void countedWhileHandled() {
        sentence("25 commands HANDLED (with the one that is being handled), 26 those with a FAULT or FAILURE");
        Station s = new Station();
        s.order(3, 1, 1, 1, 3, 21, 25, 26);
        s.order(3, 27, 1);
        s.order(3, 27, 2);
        s.sendPacket(1);
        s.order(3, 27, 1);
        s.tick();
        text("told", s.told(), "3 25, 1 4, 1 2, 3 25");
        bytes("the second of five", s.reports.get(0).data(), 1, 0, 0, 0, 3, 0, 0, 0, 2, 0, 0, 0, 0);
        bytes("the fifth", s.reports.get(3).data(), 1, 0, 0, 0, 0, 0, 0, 0, 5, 0, 0, 0, 2);
        same("handled", s.box.value(25), 5);
        same("with a FAULT or FAILURE", s.box.value(26), 2);
    }

    private static void handledInOrder() {
        sentence("(3) The packets of the queue are HANDLED in order, each taken out first");
        Station s = new Station();
        for (int round = 0; round < 3; round++) {
            StringBuilder due = new StringBuilder();
            for (int i = 0; i < 5 + round; i++) {
                s.sendPacket(tellingTest(10 * round + i));
                due.append(10 * round + i).append(' ');
            }
            s.tick();
            text("round " + round, done(s), due.toString());
        }
        s.tick();
        text("an empty queue", s.told(), "");
        for (int i = 0; i < 8; i++) {
            s.sendPacket(tellingTest(i));
        }
        s.tick();
        text("a full queue", done(s), "0 1 2 3 4 5 6 7 ");
    }
}
