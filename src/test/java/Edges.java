import java.util.Arrays;

/** What the tests of the edges share: each of their methods names the sentence of the document that it holds to. */
abstract class Edges {
    static final int NONE = OrbitBox.NONE;
    static final int LEAST = Integer.MIN_VALUE;
    static final int LARGEST = Integer.MAX_VALUE;
    /** Frames in their turn, beside it, and with CONTROL. */
    static final int TURN = 0;
    static final int BESIDE = Ground.BYPASS;
    static final int CONTROL = Ground.BYPASS | Ground.CONTROL;
    static final int WORD = 1 << 24;

    static final Expect expect = new Expect();

    static void sentence(String text) {
        expect.sentence(text);
    }

    static void same(String what, long got, long want) {
        expect.same(what, got, want);
    }

    static void yes(String what, boolean got) {
        expect.yes(what, got);
    }

    static void no(String what, boolean got) {
        expect.no(what, got);
    }

    static void text(String what, String got, String want) {
        expect.text(what, got, want);
    }

    static void bytes(String what, int[] got, int... want) {
        expect.bytes(what, got, want);
    }

    static void nothingThere(String what, Expect.Call call) {
        expect.nothingThere(what, call);
    }

    static int[] row(int... bytes) {
        return bytes;
    }

    static int[] join(int[]... parts) {
        return Ground.join(parts);
    }

    static int[] int4(int n) {
        return Ground.int4(n);
    }

    static int[] int2(int n) {
        return Ground.bytes(n, 2);
    }

    static int[] filled(int count, int with) {
        int[] all = new int[count];
        Arrays.fill(all, with);
        return all;
    }

    static Box box() {
        return new Box(1, 64, 1, 1, 64);
    }

    static int send(Box box, int flags, int number, int... body) {
        return Ground.up(box, Ground.transmission(Ground.frame(flags, number, body)));
    }

    static int[] command(int number, int service, int kind, int... data) {
        return Ground.command(number, 0, service, kind, data);
    }

    /** One that tells, when it is done, that it was: by a REPORT 1 7 with its number. */
    static int[] tellingTest(int number) {
        return Ground.command(number, 8, 17, 1);
    }

    /** The numbers of the commands that were told to be done. */
    static String done(Station s) {
        StringBuilder text = new StringBuilder();
        for (Station.Report r : s.reports) {
            if (r.service() == 1 && r.kind() == 7) {
                text.append((r.data()[2] & 63) * 256 + r.data()[3]).append(' ');
            }
        }
        return text.toString();
    }

    static int[] function(int f, int a, int b) {
        return join(row(f, a), int4(b));
    }

    static int[] raise(int e, int b) {
        return function(3, e, b);
    }

    static int[] limit(int id, int parameter, int times, int low, int high, int e, int link) {
        return join(row(id, parameter, times), int4(low), int4(high), row(e, link));
    }

    static int[] entry(int time, int... command) {
        return join(int4(time), command);
    }

    static int[] action(int e, int... command) {
        return join(row(e), command);
    }

    static int[] span(int from, int to) {
        return join(int4(from), int4(to));
    }

    static void ticks(Station s, int count) {
        for (int i = 0; i < count; i++) {
            s.tick();
        }
    }
}
