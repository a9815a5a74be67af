import java.util.Arrays;

/** Promise 4, the gate: which frames are VALID, and what becomes of them. */
public final class Promise04GateTest {
    private static final Expect expect = new Expect();
    private static final int AD = 0;
    private static final int BD = Ground.BYPASS;
    private static final int BC = Ground.BYPASS | Ground.CONTROL;

    public static void main(String[] args) {
        everyBitOfTheHeaderCounts();
        lengthMustFit();
        checkMustFit();
        controlIsUnlockOrSet();
        bodyIsWhatIsQueued();
        framesInTurn();
        distanceDecides();
        fullQueueMakesItWait();
        lockedWhileWaiting();
        besideTheTurn();
        setAndUnlock();
        nextGoesRound();
        expect.end();
    }

    private static Box box() {
        return new Box(1, 64, 1, 1, 64);
    }

    private static int send(Box box, int flags, int number, int... body) {
        return Ground.up(box, Ground.transmission(Ground.frame(flags, number, body)));
    }

    private static void refused(String what, int... frame) {
        Box box = box();
        expect.same(what, Ground.up(box, Ground.transmission(frame)), 0);
        expect.same(what + ": refused", box.value(23), 1);
        expect.same(what + ": the gate as it was", box.word(), 1 << 24);
        expect.same(what + ": nothing queued", box.value(21), 0);
    }

    private static void everyBitOfTheHeaderCounts() {
        int[] frame = Ground.frame(BD, 0, 9);
        for (int bit = 0; bit < 22; bit++) {
            if (bit != 2 && bit != 3) {
                refused("bit " + bit + " turned", Ground.rechecked(Ground.turned(frame, bit)));
            }
        }
        refused("CONTROL without BYPASS", Ground.frame(Ground.CONTROL, 0, 0));
        expect.same("the number means nothing beside the turn", send(box(), BD, 200, 9), 1);
    }

    private static void lengthMustFit() {
        refused("no body", Ground.frame(BD, 0));
        expect.same("a body of one", send(box(), BD, 0, 5), 1);
        expect.same("14 bytes in two blocks", send(box(), BD, 0, new int[7]), 1);
        refused("15 bytes, of which 14 come", Arrays.copyOf(Ground.frame(BD, 0, new int[8]), 14));
        refused("1024 bytes, of which 14 come", Ground.withCheck(0x21, 0x5A, 3, 255, 0, 1));
        expect.same("bytes behind the frame mean nothing",
            Ground.up(box(), Ground.transmission(Ground.join(Ground.frame(BD, 0, 7), new int[30]))), 1);
    }

    private static void checkMustFit() {
        int[] frame = Ground.frame(BD, 0, 4, 5, 6);
        for (int i = 4; i < frame.length; i++) {
            int[] other = frame.clone();
            other[i] ^= 1;
            refused("byte " + i + " is another", other);
        }
    }

    private static void controlIsUnlockOrSet() {
        refused("control 1", Ground.frame(BC, 0, 1));
        refused("control 0 0", Ground.frame(BC, 0, 0, 0));
        refused("control 130 0", Ground.frame(BC, 0, 130, 0));
        refused("control 130 1 5", Ground.frame(BC, 0, 130, 1, 5));
        refused("control 131 0 5", Ground.frame(BC, 0, 131, 0, 5));
        refused("control 0 0 5", Ground.frame(BC, 0, 0, 0, 5));
        refused("control 130 0 5 6", Ground.frame(BC, 0, 130, 0, 5, 6));
    }

    private static void bodyIsWhatIsQueued() {
        Station s = new Station();
        s.sendPacket(Ground.command(5, 0, 17, 1));
        s.sendPacket(9, 8, 7);
        s.tick();
        expect.text("the test and the three bytes", s.told(), "17 2, 1 2");
        expect.bytes("four bytes of three", s.reports.get(1).data(), 9, 8, 7, 0, 0, 1);
    }

    private static void framesInTurn() {
        Box box = box();
        expect.same("0", send(box, AD, 0, 1), 1);
        expect.same("1", send(box, AD, 1, 1), 1);
        expect.same("next", box.value(19), 2);
        expect.same("1 once more", send(box, AD, 1, 1), 0);
        expect.same("nothing happens", box.word(), 1 << 24 | 2);
        expect.same("3 is too early", send(box, AD, 3, 1), 0);
        expect.same("AGAIN", box.word(), 1 << 24 | 1 << 11 | 2);
        expect.same("beside", send(box, BD, 0, 1), 1);
        expect.same("AGAIN stays", box.word(), 1 << 24 | 1 << 11 | 1 << 9 | 2);
        expect.same("2", send(box, AD, 2, 1), 1);
        expect.same("AGAIN is off", box.word(), 1 << 24 | 1 << 9 | 3);
        expect.same("accepted", box.value(24), 4);
        expect.same("none refused", box.value(23), 0);
    }

    private static void distanceDecides() {
        for (int d = 0; d < 256; d++) {
            Box box = box();
            send(box, BC, 0, 130, 0, 100);
            int came = send(box, AD, (100 + d) % 256, 1);
            boolean locked = d >= 10 && d <= 245;
            expect.same("came, " + d, came, d == 0 ? 1 : 0);
            expect.same("state, " + d, box.value(18), locked ? 3 : 1);
            expect.same("AGAIN, " + d, box.word() >>> 11 & 1, d >= 1 && d <= 9 ? 1 : 0);
            expect.same("locked, " + d, box.word() >>> 13 & 1, locked ? 1 : 0);
            expect.same("next, " + d, box.value(19), d == 0 ? 101 : 100);
            expect.same("refused, " + d, box.value(23), 0);
            if (locked) {
                expect.same("the next one finds it locked", send(box, AD, 100, 1), 0);
                expect.same("one ahead too", send(box, AD, 101, 1), 0);
                expect.same("without AGAIN", box.word() >>> 11 & 1, 0);
                box.tick();
                expect.same("a tick does not open it", box.value(18), 3);
                expect.same("beside the turn it is open", send(box, BD, 0, 1), 1);
            }
        }
    }

    private static Box full() {
        Box box = box();
        for (int i = 0; i < 8; i++) {
            expect.same("place " + i, send(box, AD, i, 1), 1);
        }
        return box;
    }

    private static void fullQueueMakesItWait() {
        Box box = full();
        expect.same("full", box.value(21), 8);
        expect.same("open", box.value(18), 1);
        expect.same("the ninth", send(box, AD, 8, 1), 0);
        expect.same("waiting", box.value(18), 2);
        expect.same("AGAIN and WAITS", box.word(), 1 << 24 | 3 << 11 | 8);
        expect.same("one ahead", send(box, AD, 9, 1), 0);
        expect.same("one behind", send(box, AD, 7, 1), 0);
        expect.same("not refused", box.value(23), 0);
        box.tick();
        expect.same("open with the tick", box.value(18), 1);
        expect.same("AGAIN stays", box.word(), 1 << 24 | 1 << 11 | 8);
        expect.same("the ninth once more", send(box, AD, 8, 1), 1);
        expect.same("AGAIN is off", box.word(), 1 << 24 | 9);
        Box unlocked = full();
        send(unlocked, AD, 8, 1);
        send(unlocked, BC, 0, 0);
        expect.same("UNLOCK opens it", unlocked.word(), 1 << 24 | 1 << 9 | 8);
        send(unlocked, AD, 8, 1);
        expect.same("but there is no place yet", unlocked.value(18), 2);
        send(unlocked, BC, 0, 130, 0, 50);
        expect.same("SET opens it", unlocked.word(), 1 << 24 | 2 << 9 | 50);
    }

    private static void lockedWhileWaiting() {
        Box box = full();
        send(box, AD, 8, 1);
        send(box, AD, 18, 1);
        expect.same("locked, with WAITS and AGAIN", box.word(), 1 << 24 | 7 << 11 | 8);
        box.tick();
        expect.same("WAITS is off", box.word(), 1 << 24 | 5 << 11 | 8);
        expect.same("locked", box.value(18), 3);
    }

    private static void besideTheTurn() {
        Box box = box();
        for (int i = 0; i < 8; i++) {
            expect.same("place " + i, send(box, BD, 77, 1), 1);
            expect.same("BESIDE", box.word(), 1 << 24 | (i + 1) % 4 << 9);
        }
        expect.same("no place", send(box, BD, 77, 1), 0);
        expect.same("refused", box.value(23), 1);
        expect.same("BESIDE as it was", box.word(), 1 << 24);
        expect.same("eight accepted", box.value(24), 8);
        box.tick();
        expect.same("places again", send(box, BD, 77, 1), 1);
    }

    private static void setAndUnlock() {
        Box box = box();
        expect.same("SET is not counted", send(box, BC, 0, 130, 0, 200), 0);
        expect.same("next", box.value(19), 200);
        expect.same("BESIDE", box.word(), 1 << 24 | 1 << 9 | 200);
        send(box, AD, 201, 1);
        send(box, BC, 0, 130, 0, 201);
        expect.same("SET puts AGAIN off", box.word(), 1 << 24 | 2 << 9 | 201);
        send(box, AD, 50, 1);
        send(box, BC, 0, 130, 0, 7);
        expect.same("SET does nothing to a locked one", box.word(), 1 << 24 | 1 << 13 | 3 << 9 | 201);
        expect.same("UNLOCK is not counted", send(box, BC, 0, 0), 0);
        expect.same("open, BESIDE round", box.word(), 1 << 24 | 201);
        expect.same("none accepted", box.value(24), 0);
        expect.same("none refused", box.value(23), 0);
        expect.same("nothing queued", box.value(21), 0);
    }

    private static void nextGoesRound() {
        Box box = box();
        send(box, BC, 0, 130, 0, 255);
        expect.same("255", send(box, AD, 255, 1), 1);
        expect.same("next", box.value(19), 0);
        expect.same("0", send(box, AD, 0, 1), 1);
        expect.same("next", box.word() & 511, 1);
    }
}
