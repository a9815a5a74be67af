/** Promise 6, commands: faults in their order, wishes, and the reports on them. */
public final class Promise06CommandTest {
    private static final Expect expect = new Expect();

    public static void main(String[] args) {
        wishesAreMet();
        failuresAreReported();
        faultsAreReported();
        firstFaultIsTold();
        everyKindHasItsLength();
        otherKindsAreNone();
        queueIsHandledInOrder();
        expect.end();
    }

    private static void wishesAreMet() {
        for (int wishes = 0; wishes < 16; wishes++) {
            Station s = new Station();
            s.sendPacket(Ground.command(0x1234, wishes, 17, 1));
            s.tick();
            String due = ((wishes & 1) != 0 ? "1 1, " : "") + ((wishes & 2) != 0 ? "1 3, " : "") + "17 2"
                + ((wishes & 8) != 0 ? ", 1 7" : "");
            expect.text("wishes " + wishes, s.told(), due);
            for (Station.Report r : s.reports) {
                if (r.service() == 1) {
                    expect.bytes("its first four bytes", r.data(), 0x18, 42, 0xD2, 0x34);
                } else {
                    expect.bytes("no data", r.data());
                }
            }
            expect.same("handled", s.box.value(25), 1);
            expect.same("none failed", s.box.value(26), 0);
        }
    }

    private static void failuresAreReported() {
        Station s = new Station();
        s.sendPacket(Ground.command(7, 15, 3, 5, 99));
        s.tick();
        expect.text("a failure", s.told(), "1 1, 1 4");
        expect.bytes("data", s.reports.get(1).data(), 0x18, 42, 0xC0, 7, 0, 14);
        s.sendPacket(Ground.command(7, 0, 3, 5, 99));
        s.tick();
        expect.text("a failure without wishes", s.told(), "1 4");
        expect.same("handled", s.box.value(25), 2);
        expect.same("failed", s.box.value(26), 2);
    }

    private static void fault(String what, int due, int... packet) {
        Station s = new Station();
        s.sendPacket(packet);
        s.tick();
        expect.text(what, s.told(), "1 2");
        int[] d = s.reports.get(0).data();
        expect.same(what + ": bytes", d.length, 6);
        for (int i = 0; i < 4; i++) {
            expect.same(what + ": byte " + i, d[i], i < packet.length ? packet[i] : 0);
        }
        expect.same(what + ": fault", d[4] * 256 + d[5], due);
        expect.same(what + ": handled", s.box.value(25), 1);
        expect.same(what + ": failed", s.box.value(26), 1);
    }

    private static int[] changed(int at, int bit) {
        int[] packet = Ground.command(3, 15, 17, 1);
        packet[at] ^= bit;
        return Ground.rechecked(packet);
    }

    private static void faultsAreReported() {
        fault("one byte", 1, 0x18);
        fault("four bytes", 1, 1, 2, 3, 4);
        fault("twelve bytes", 1, Ground.withCheck(0x18, 42, 0xC0, 0, 0, 5, 0x2F, 17, 1, 0));
        fault("it says one more", 1, changed(5, 1));
        fault("it says many more", 1, changed(4, 1));
        fault("a byte more than it says", 1, Ground.join(Ground.command(3, 0, 17, 1), Ground.row(0)));
        int[] wrong = Ground.command(3, 15, 17, 1);
        wrong[12] ^= 1;
        fault("check", 2, wrong);
        wrong = Ground.command(3, 15, 17, 1);
        wrong[9] ^= 1;
        fault("check of what means nothing", 2, wrong);
        int[] firstBits = {128, 64, 32, 16, 8};
        for (int bit : firstBits) {
            fault("first bits, " + bit, 3, changed(0, bit));
        }
        fault("11", 3, changed(2, 128));
        fault("11", 3, changed(2, 64));
        for (int bit = 1; bit < 8; bit *= 2) {
            fault("the number, upper", 4, changed(0, bit));
        }
        for (int bit = 1; bit < 256; bit *= 2) {
            fault("the number", 4, changed(1, bit));
        }
        for (int bit = 16; bit < 256; bit *= 2) {
            fault("0010", 5, changed(6, bit));
        }
        fault("service", 6, changed(7, 4));
        fault("kind", 6, changed(8, 1));
        fault("length", 7, Ground.command(3, 15, 17, 1, 0));
    }

    private static void firstFaultIsTold() {
        int[] packet = Ground.command(3, 15, 99, 9);
        packet[0] = 0;
        packet[1] = 0;
        packet[6] = 0;
        fault("all but length and check", 3, Ground.rechecked(packet));
        fault("check before them", 2, Ground.join(java.util.Arrays.copyOf(packet, 11), Ground.row(0, 0)));
        packet[0] = 0x18;
        fault("the number before 0010", 4, Ground.rechecked(packet));
        packet[1] = 42;
        fault("0010 before the kind", 5, Ground.rechecked(packet));
        packet[5]++;
        fault("length before the check", 1, packet);
    }

    /** Service, kind, and the length that its DATA must have. */
    private static final int[][] LENGTHS = {{3, 3, 1}, {3, 5, 1}, {3, 6, 1}, {3, 27, 1}, {5, 5, 1}, {5, 6, 1}, {6, 5, 3},
        {6, 9, 4}, {8, 1, 6}, {11, 1, 0}, {11, 2, 0}, {11, 3, 0}, {11, 5, 2}, {11, 15, 4}, {11, 17, 0}, {12, 1, 1},
        {12, 2, 1}, {12, 5, 13}, {12, 6, 1}, {15, 1, 1}, {15, 2, 1}, {15, 9, 8}, {15, 11, 4}, {15, 12, 0}, {17, 1, 0},
        {19, 2, 1}, {19, 4, 1}, {19, 5, 1}};

    private static void everyKindHasItsLength() {
        for (int[] row : LENGTHS) {
            for (int length = 0; length < 16; length++) {
                int fault = new Station().tryOut(row[0], row[1], new int[length]);
                expect.yes(row[0] + " " + row[1] + " with " + length, fault == 7 == (length != row[2]));
            }
        }
        for (int length = 0; length < 40; length++) {
            int[] data = new int[length];
            if (length > 2) {
                data[2] = length - 3;
            }
            expect.yes("3 1 with " + length, new Station().tryOut(3, 1, data) == 7 == (length < 3));
            expect.yes("6 2 with " + length, new Station().tryOut(6, 2, data) == 7 == (length < 3));
            if (length > 3) {
                data[2]--;
                expect.same("3 1, one too many, " + length, new Station().tryOut(3, 1, data), 7);
                expect.same("6 2, one too many, " + length, new Station().tryOut(6, 2, data), 7);
                data[2] += 2;
                expect.same("3 1, one too few, " + length, new Station().tryOut(3, 1, data), 7);
                expect.same("6 2, one too few, " + length, new Station().tryOut(6, 2, data), 7);
                data[2] = 255;
                expect.same("3 1, many too few, " + length, new Station().tryOut(3, 1, data), 7);
            }
            expect.same("11 4 with " + length, new Station().tryOut(11, 4, new int[length]), length < 17 ? 7 : 22);
            expect.same("19 1 with " + length, new Station().tryOut(19, 1, new int[length]), length < 14 ? 7 : 22);
        }
    }

    private static void otherKindsAreNone() {
        StringBuilder kinds = new StringBuilder(" 3.1 6.2 11.4 19.1 ");
        for (int[] row : LENGTHS) {
            kinds.append(row[0]).append('.').append(row[1]).append(' ');
        }
        for (int service = 0; service < 256; service++) {
            Station s = new Station();
            for (int kind = 0; kind < 256; kind += kind < 31 ? 1 : 75) {
                boolean there = kinds.indexOf(" " + service + "." + kind + " ") >= 0;
                expect.yes(service + " " + kind, s.tryOut(service, kind, new int[50]) == 6 == !there);
            }
        }
    }

    private static void queueIsHandledInOrder() {
        Station s = new Station();
        s.order(3, 1, 1, 1, 3, 21, 25, 26);
        s.tick();
        s.order(3, 27, 1);
        s.order(3, 27, 77);
        s.order(17, 1);
        s.order(3, 27, 1);
        s.tick();
        expect.text("in order", s.told(), "3 25, 1 4, 17 2, 3 25");
        expect.bytes("three were in the queue then", s.reports.get(0).data(), 1, 0, 0, 0, 3, 0, 0, 0, 2, 0, 0, 0, 0);
        expect.bytes("none were then", s.reports.get(3).data(), 1, 0, 0, 0, 0, 0, 0, 0, 5, 0, 0, 0, 1);
        expect.same("the queue is empty", s.box.value(21), 0);
        s.tick();
        expect.text("nothing is handled twice", s.told(), "");
    }
}
