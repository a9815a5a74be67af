/** Promise 8: value, every parameter of it. */
public final class Promise08ValueTest {
    private static final Expect expect = new Expect();

    public static void main(String[] args) {
        sensorsAndActuators();
        clockAndMode();
        gateAndReceiver();
        timetableAndQueue();
        commands();
        storeAndChannel();
        eventsAndLimits();
        otherNumbersAreNone();
        expect.end();
    }

    private static int[] function(int f, int a, int b) {
        return Ground.join(Ground.row(f, a), Ground.int4(b));
    }

    private static void sensorsAndActuators() {
        Station s = new Station();
        for (int k = 0; k < 8; k++) {
            s.box.sense(k, -k);
            s.order(8, 1, function(1, k, 1000 + k));
        }
        s.tick();
        for (int k = 0; k < 8; k++) {
            expect.same("sensor " + k, s.box.value(k), -k);
            expect.same("actuator " + k, s.box.value(8 + k), 1000 + k);
        }
    }

    private static void clockAndMode() {
        Station s = new Station();
        for (int t = 1; t <= 300; t++) {
            s.tick();
            expect.same("clock", s.box.value(17), t);
        }
        for (int mode : new int[] {2, 1, 0, 1, 2, 0}) {
            s.order(8, 1, function(2, mode, 0));
            s.tick();
            expect.same("mode", s.box.value(16), mode);
        }
    }

    private static void gateAndReceiver() {
        Box box = new Box(1, 64, 1, 1, 64);
        expect.same("open", box.value(18), 1);
        int[] sent = Ground.transmission(Ground.frame(0, 0, 9));
        Ground.up(box, Ground.turned(sent, 40, 100));
        expect.same("put right", box.value(22), 2);
        expect.same("next", box.value(19), 1);
        expect.same("accepted", box.value(24), 1);
        Ground.up(box, Ground.transmission(Ground.frame(0, 100, 9)));
        expect.same("locked", box.value(18), 3);
        Ground.up(box, Ground.transmission(Ground.frame(2, 100, 9)));
        expect.same("refused", box.value(23), 1);
        Ground.up(box, Ground.transmission(Ground.frame(3, 0, 0)));
        expect.same("UNLOCK is not accepted", box.value(24), 1);
        expect.same("nor refused", box.value(23), 1);
    }

    private static void timetableAndQueue() {
        Station s = new Station();
        for (int i = 1; i <= 5; i++) {
            s.order(11, 4, Ground.join(Ground.int4(50), Ground.command(1, 0, 17, 1)));
            expect.same("in the queue", s.box.value(21), i);
            expect.same("not in the timetable", s.box.value(20), 0);
        }
        s.tick();
        expect.same("none in the queue", s.box.value(21), 0);
        expect.same("in the timetable", s.box.value(20), 5);
    }

    private static void commands() {
        Station s = new Station();
        s.order(17, 1);
        s.order(17, 2);
        s.order(3, 5, 1);
        s.sendPacket(1, 2, 3);
        expect.same("none handled yet", s.box.value(25), 0);
        s.tick();
        expect.same("handled", s.box.value(25), 4);
        expect.same("with a fault or failure", s.box.value(26), 3);
    }

    private static void storeAndChannel() {
        Station s = new Station(1, 64, 1, 1, 100);
        s.order(15, 1, 6);
        s.order(6, 5, 0, 0, 20);
        s.order(6, 5, 0, 0, 20);
        s.order(6, 5, 0, 0, 20);
        s.tick();
        expect.same("in the store", s.box.value(28), 2);
        expect.same("in channel 0", s.box.value(29), 3 * 42 - 52);
        expect.same("none lost", s.box.value(27), 0);
    }

    private static void eventsAndLimits() {
        Station s = new Station();
        s.order(12, 5, Ground.join(Ground.row(1, 0, 2), Ground.int4(1), Ground.int4(1), Ground.row(4, 0)));
        s.order(12, 5, Ground.join(Ground.row(2, 0, 1), Ground.int4(1), Ground.int4(1), Ground.row(4, 0)));
        s.order(12, 1, 1);
        s.order(12, 1, 2);
        s.tick();
        expect.same("one broken", s.box.value(31), 1);
        s.tick();
        expect.same("two broken", s.box.value(31), 2);
        s.box.sense(0, 1);
        s.tick();
        s.box.sense(0, 2);
        s.tick();
        expect.same("one of them once more", s.box.value(31), 3);
        expect.same("no event lost", s.box.value(30), 0);
    }

    private static void otherNumbersAreNone() {
        Box box = new Box(1, 64, 1, 1, 64);
        int[] wrong = {-1, -2, 32, 33, 255, Integer.MIN_VALUE, Integer.MAX_VALUE};
        for (int k : wrong) {
            expect.nothingThere("value(" + k + ")", () -> box.value(k));
        }
    }
}
