import java.util.Arrays;

/** Each command that is refused, with a FAULT or a FAILURE, leaves everything as it was. */
public final class EdgesRefusedTest extends Edges {
    /** Refused, and known to do nothing: what others leave behind is held against what these do. */
    private static final int[] FAILING = command(9, 3, 5, 99);
    private static final int[] FAULTY = command(9, 17, 1, 0);

    /** FAILURE, SERVICE, KIND and DATA of commands that are refused by a box that is full of everything. */
    private static final int[][] REFUSED = {
        {13, 3, 1, 9, 0, 1, 5}, {13, 3, 1, 9, 1, 0}, {13, 3, 1, 9, 1, 9, 1, 1, 1, 1, 1, 1, 1, 1, 1}, {13, 3, 1, 9, 1, 1, 32},
        {11, 3, 1, 1, 1, 1, 5}, {12, 3, 1, 9, 1, 1, 5}, {14, 3, 3, 99}, {15, 3, 3, 1}, {14, 3, 5, 99}, {14, 3, 6, 99},
        {14, 3, 27, 99},
        {16, 5, 5, 32}, {16, 5, 6, 32}, {16, 5, 6, 255},
        {17, 6, 2, 0, 0, 0}, {17, 6, 2, 15, 255, 2, 8, 8}, {17, 6, 2, 16, 0, 1, 8}, {17, 6, 5, 0, 0, 0},
        {17, 6, 5, 15, 255, 2}, {17, 6, 9, 0, 0, 0, 0}, {17, 6, 9, 0, 1, 16, 0},
        {18, 8, 1, 0, 0, 0, 0, 0, 1}, {18, 8, 1, 4, 0, 0, 0, 0, 1}, {18, 8, 1, 1, 8, 0, 0, 0, 1},
        {18, 8, 1, 2, 3, 0, 0, 0, 1}, {18, 8, 1, 3, 32, 0, 0, 0, 1},
        {23, 11, 5, 0, 77}, {24, 11, 15, 255, 255, 0, 0}, {24, 11, 15, 127, 255, 255, 255},
        {27, 12, 1, 99}, {27, 12, 2, 99}, {27, 12, 6, 99}, {15, 12, 6, 1},
        {32, 15, 1, 32}, {32, 15, 2, 32}, {28, 15, 12},
        {16, 19, 2, 32}, {30, 19, 2, 6}, {15, 19, 2, 3}, {16, 19, 4, 32}, {30, 19, 4, 6}, {16, 19, 5, 32}, {30, 19, 5, 6},
    };

    public static void main(String[] args) {
        failuresDoNothing();
        failuresOfNewLimits();
        failuresOfNewEntriesAndActions();
        failuresInModeZero();
        failureOfASecondRetrieval();
        faultsDoNothing();
        expect.end();
    }

    /** With eight forms, sixteen limits, two entries of two, and some of all else. */
    private static Station full() {
        Station s = new Station(2, 256, 4, 5, 2000);
        for (int id = 1; id <= 8; id++) {
            s.order(3, 1, id, 1 + id, 2, 17, id);
        }
        s.box.tick();
        for (int id = 1; id <= 8; id++) {
            s.order(12, 5, limit(id, 0, 3, 0, 9, 10 + id, 1));
        }
        s.box.tick();
        for (int id = 11; id <= 18; id++) {
            s.order(12, 5, limit(id, 17, 90, 0, 1, 10, 0));
        }
        s.box.tick();
        s.order(3, 5, 1);
        s.order(12, 1, 1);
        s.order(12, 1, 18);
        s.order(5, 6, 5);
        s.order(6, 2, 0, 0, 3, 21, 22, 23);
        s.order(6, 2, 15, 255, 1, 24);
        s.order(8, 1, function(1, 2, 25));
        s.box.tick();
        s.order(11, 1);
        s.order(11, 4, entry(100, tellingTest(1)));
        s.order(11, 4, entry(200, tellingTest(2)));
        s.order(19, 1, action(3, tellingTest(3)));
        s.order(19, 4, 3);
        s.order(19, 1, action(4, tellingTest(4)));
        s.order(15, 1, 6);
        s.order(6, 5, 0, 0, 3);
        s.tick();
        ticks(s, 2);
        return s;
    }

    private static Station inModeZero() {
        Station s = full();
        s.order(8, 1, function(2, 0, 0));
        ticks(s, 2);
        return s;
    }

    private static int reasonOf(Station s) {
        for (Station.Report r : s.reports) {
            if (r.service() == 1 && (r.kind() == 2 || r.kind() == 4)) {
                return r.data()[4] * 256 + r.data()[5];
            }
        }
        return 0;
    }

    /** All that can be asked for, and the reports of the latest tick, but for what was refused and why. */
    private static void tell(Station s, StringBuilder text) {
        for (int k = 0; k < 32; k++) {
            text.append(s.box.value(k)).append(' ');
        }
        for (int what = 0; what < 6; what++) {
            text.append(s.box.state(what)).append(' ');
        }
        text.append(s.box.word()).append(" entries ");
        for (int i = 0; i < s.box.value(20); i++) {
            text.append(s.box.entry(i, 0)).append(' ').append(s.box.entry(i, 1)).append(' ').append(s.box.entry(i, 2)).append(' ');
        }
        for (int id : new int[] {0, 1, 2, 8, 9, 11, 18, 32, 99}) {
            text.append(s.box.limit(id, 0)).append(' ').append(s.box.limit(id, 1)).append(' ');
        }
        for (int k : new int[] {0, 1, 2, 3, 4094, 4095}) {
            text.append(s.box.memory(k)).append(' ');
        }
        for (Station.Report r : s.reports) {
            boolean refusal = r.service() == 1 && (r.kind() == 2 || r.kind() == 4);
            text.append(refusal ? "refused " : Arrays.toString(r.bytes()));
        }
        for (Station.Report r : s.replay) {
            text.append(" back ").append(Arrays.toString(r.bytes()));
        }
        text.append('\n');
    }

    /** What comes of it at once, and what can be seen of forms, actions, entries, services and the store later. */
    private static String traceOf(Station s, int[]... packets) {
        StringBuilder text = new StringBuilder();
        for (int[] packet : packets) {
            s.sendPacket(packet);
        }
        s.tick();
        tell(s, text);
        int reason = reasonOf(s);
        for (int id : new int[] {1, 2, 8, 9}) {
            s.order(3, 27, id);
        }
        s.order(11, 17);
        s.order(6, 9, 0, 0, 16, 0);
        s.tick();
        tell(s, text);
        for (int e : new int[] {3, 4, 5, 6}) {
            s.order(8, 1, raise(e, e));
        }
        s.order(17, 1);
        s.order(15, 9, span(0, 1000));
        s.tick();
        tell(s, text);
        s.tick();
        tell(s, text);
        return reason + "\n" + text;
    }

    private static void compare(String what, int due, String got, String known) {
        int at = got.indexOf('\n');
        text(what, got.substring(0, at), Integer.toString(due));
        text(what + " leaves", got.substring(at), known.substring(known.indexOf('\n')));
    }

    private static void failuresDoNothing() {
        sentence("with a FAILURE, the first that is told below, nothing is done");
        String known = traceOf(full(), FAILING);
        for (int[] row : REFUSED) {
            int[] packet = command(9, row[1], row[2], Arrays.copyOfRange(row, 3, row.length));
            compare(Arrays.toString(row), row[0], traceOf(full(), packet), known);
        }
    }

    private static void failuresOfNewLimits() {
        sentence("with a FAILURE, the first that is told below, nothing is done");
        String known = traceOf(full(), FAILING);
        int[][] failureAndLimit = {{13, 9, 0, 0, 1, 2, 3, 0}, {13, 9, 0, 1, 2, 1, 3, 0}, {13, 9, 0, 1, 1, 2, 3, 2},
            {13, 9, 32, 1, 1, 2, 3, 0}, {13, 9, 0, 1, 1, 2, 32, 0}, {25, 1, 0, 1, 1, 2, 3, 0}, {25, 18, 0, 1, 1, 2, 3, 0},
            {26, 9, 0, 1, 1, 2, 3, 0}};
        for (int[] n : failureAndLimit) {
            int[] packet = command(9, 12, 5, limit(n[1], n[2], n[3], n[4], n[5], n[6], n[7]));
            compare("a limit, " + Arrays.toString(n), n[0], traceOf(full(), packet), known);
        }
    }

    private static void failuresOfNewEntriesAndActions() {
        sentence("with a FAILURE, the first that is told below, nothing is done");
        String known = traceOf(full(), FAILING);
        compare("22", 22, traceOf(full(), command(9, 11, 4, entry(50, filled(13, 0)))), known);
        compare("20", 20, traceOf(full(), command(9, 11, 4, entry(8, tellingTest(7)))), known);
        compare("21", 21, traceOf(full(), command(9, 11, 4, entry(50, tellingTest(7)))), known);
        compare("16", 16, traceOf(full(), command(9, 19, 1, action(32, tellingTest(7)))), known);
        compare("22", 22, traceOf(full(), command(9, 19, 1, action(6, filled(13, 0)))), known);
        compare("29", 29, traceOf(full(), command(9, 19, 1, action(3, tellingTest(7)))), known);
        compare("29", 29, traceOf(full(), command(9, 19, 1, action(4, tellingTest(7)))), known);
    }

    private static void failuresInModeZero() {
        sentence("19 (f 1 in MODE 0; f 2 from MODE 0 to 2)");
        String known = traceOf(inModeZero(), FAILING);
        compare("an actuator", 19, traceOf(inModeZero(), command(9, 8, 1, function(1, 2, 77))), known);
        compare("MODE 2", 19, traceOf(inModeZero(), command(9, 8, 1, function(2, 2, 77))), known);
        compare("no actuator", 18, traceOf(inModeZero(), command(9, 8, 1, function(1, 8, 77))), known);
        compare("no MODE", 18, traceOf(inModeZero(), command(9, 8, 1, function(2, 3, 77))), known);
    }

    private static void failureOfASecondRetrieval() {
        sentence("28 (one is under way)");
        int[] begin = command(8, 15, 9, span(0, 3));
        String known = traceOf(full(), begin, FAILING);
        compare("a second one", 28, traceOf(full(), begin, command(9, 15, 9, span(0, 1000))), known);
    }

    private static void faultsDoNothing() {
        sentence("With a FAULT a REPORT 1 2 is made");
        String known = traceOf(full(), FAULTY);
        int[] good = command(9, 11, 3);
        compare("1", 1, traceOf(full(), Arrays.copyOf(good, 12)), known);
        compare("1", 1, traceOf(full(), join(good, row(0))), known);
        int[][] positionAndFault = {{12, 2}, {0, 3}, {2, 3}, {1, 4}, {6, 5}};
        for (int[] n : positionAndFault) {
            int[] packet = good.clone();
            packet[n[0]] ^= 128;
            compare("byte " + n[0], n[1], traceOf(full(), n[1] == 2 ? packet : Ground.rechecked(packet)), known);
        }
        compare("6", 6, traceOf(full(), command(9, 11, 0)), known);
        compare("7", 7, traceOf(full(), command(9, 11, 3, 0)), known);
        compare("7", 7, traceOf(full(), command(9, 11, 15)), known);
        compare("7", 7, traceOf(full(), command(9, 6, 2, 0, 0, 2, 9)), known);
    }
}
