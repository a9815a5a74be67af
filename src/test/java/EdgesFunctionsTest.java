/** Edges of service 8, of the MODE, and of promise 5 (sense). */
public final class EdgesFunctionsTest extends Edges {
    private static final int[] SAFE = {0, 0, 0, 0, 50, 50, 100, 1};

    public static void main(String[] args) {
        noSuchFunction();
        noSuchActuator();
        noSuchMode();
        noSuchEvent();
        actuatorsInModeZero();
        fromModeZeroToTwo();
        firstFailure();
        refusedFunctionChangesNothing();
        sameModeOnceMore();
        everyChangeOfMode();
        actuatorsOfTheSafeState();
        everyValue();
        noSuchSensor();
        expect.end();
    }

    private static Station inMode(int mode) {
        Station s = new Station();
        s.tryOut(8, 1, function(2, mode, 0));
        same("the MODE", s.box.value(16), mode);
        return s;
    }

    private static void noSuchFunction() {
        sentence("18 (no such f, a not 0 .. 7, 0 .. 2, 0 .. 31)");
        Station s = new Station();
        for (int f : new int[] {0, 4, 5, 128, 255}) {
            same("f " + f, s.tryOut(8, 1, function(f, 0, 0)), 18);
        }
        for (int f = 1; f <= 3; f++) {
            same("f " + f, s.tryOut(8, 1, function(f, 1, 0)), 0);
        }
    }

    private static void noSuchActuator() {
        sentence("18 (no such f, a not 0 .. 7, 0 .. 2, 0 .. 31)");
        Station s = new Station();
        same("actuator 0", s.tryOut(8, 1, function(1, 0, 5)), 0);
        same("actuator 7", s.tryOut(8, 1, function(1, 7, 6)), 0);
        for (int a : new int[] {8, 9, 31, 128, 255}) {
            same("actuator " + a, s.tryOut(8, 1, function(1, a, 7)), 18);
        }
        same("the first", s.box.value(8), 5);
        same("the last", s.box.value(15), 6);
    }

    private static void noSuchMode() {
        sentence("18 (no such f, a not 0 .. 7, 0 .. 2, 0 .. 31)");
        Station s = new Station();
        same("MODE 2", s.tryOut(8, 1, function(2, 2, 0)), 0);
        for (int a : new int[] {3, 4, 7, 128, 255}) {
            same("MODE " + a, s.tryOut(8, 1, function(2, a, 0)), 18);
        }
        same("as it was", s.box.value(16), 2);
        same("MODE 0", s.tryOut(8, 1, function(2, 0, 0)), 0);
    }

    private static void noSuchEvent() {
        sentence("18 (no such f, a not 0 .. 7, 0 .. 2, 0 .. 31)");
        Station s = new Station();
        same("event 0", s.tryOut(8, 1, raise(0, 0)), 0);
        same("event 31", s.tryOut(8, 1, raise(31, 0)), 0);
        for (int a : new int[] {32, 33, 128, 255}) {
            same("event " + a, s.tryOut(8, 1, raise(a, 0)), 18);
            text("nothing is raised", s.told(), "1 4");
        }
    }

    private static void actuatorsInModeZero() {
        sentence("19 (f 1 in MODE 0; f 2 from MODE 0 to 2)");
        for (int a = 0; a < 8; a++) {
            Station s = inMode(0);
            same("in MODE 0, " + a, s.tryOut(8, 1, function(1, a, 9)), 19);
            same("as it was", s.box.value(8 + a), SAFE[a]);
        }
        same("in MODE 1", new Station().tryOut(8, 1, function(1, 0, 9)), 0);
        same("in MODE 2", inMode(2).tryOut(8, 1, function(1, 0, 9)), 0);
    }

    private static void fromModeZeroToTwo() {
        sentence("19 (f 1 in MODE 0; f 2 from MODE 0 to 2)");
        Station s = inMode(0);
        same("0 to 2", s.tryOut(8, 1, function(2, 2, 0)), 19);
        same("as it was", s.box.value(16), 0);
        same("0 to 0", s.tryOut(8, 1, function(2, 0, 0)), 0);
        same("events are raised in MODE 0", s.tryOut(8, 1, raise(9, 0)), 0);
        same("0 to 1", s.tryOut(8, 1, function(2, 1, 0)), 0);
        same("1 to 2", s.tryOut(8, 1, function(2, 2, 0)), 0);
        same("2 to 0", s.tryOut(8, 1, function(2, 0, 0)), 0);
    }

    private static void firstFailure() {
        sentence("with a FAILURE, the first that is told below");
        Station s = inMode(0);
        same("18 before 19, actuator 8", s.tryOut(8, 1, function(1, 8, 0)), 18);
        same("18 before 19, MODE 3", s.tryOut(8, 1, function(2, 3, 0)), 18);
    }

    private static void refusedFunctionChangesNothing() {
        sentence("nothing is done, and a REPORT 1 4 is made");
        Station s = inMode(0);
        s.tryOut(8, 1, function(2, 2, 0));
        text("no event of a MODE", s.told(), "1 4");
        s.tick();
        text("nor later", s.told(), "");
    }

    private static void sameModeOnceMore() {
        sentence("the MODE may become the one that it is: nothing else happens by that.");
        for (int mode = 0; mode <= 2; mode++) {
            Station s = inMode(mode);
            if (mode != 0) {
                s.tryOut(8, 1, function(1, 2, 77));
            }
            same("once more " + mode, s.tryOut(8, 1, function(2, mode, 5)), 0);
            text("no event", s.told(), "");
            same("the MODE", s.box.value(16), mode);
            same("an actuator", s.box.value(10), mode == 0 ? 0 : 77);
        }
    }

    private static void everyChangeOfMode() {
        sentence("Wherever the MODE becomes another one: event 1 is RAISED with the new one");
        int[][] changes = {{1, 0}, {1, 2}, {2, 0}, {2, 1}, {0, 1}};
        for (int[] c : changes) {
            Station s = inMode(c[0]);
            s.tryOut(8, 1, function(2, c[1], 99));
            text(c[0] + " to " + c[1], s.told(), "5 1");
            bytes(c[0] + " to " + c[1], s.reports.get(0).data(), 1, 0, 0, 0, c[1]);
        }
    }

    private static void actuatorsOfTheSafeState() {
        sentence("if that is 0, the actuators become 0 0 0 0 50 50 100 1.");
        for (int from = 1; from <= 2; from++) {
            Station s = inMode(from);
            for (int a = 0; a < 8; a++) {
                s.order(8, 1, function(1, a, -1 - a));
            }
            s.tick();
            s.tryOut(8, 1, function(2, 3 - from, 0));
            for (int a = 0; a < 8; a++) {
                same("actuator " + a + " stays from " + from, s.box.value(8 + a), -1 - a);
            }
            s.tryOut(8, 1, function(2, 0, 0));
            for (int a = 0; a < 8; a++) {
                same("actuator " + a, s.box.value(8 + a), SAFE[a]);
            }
            s.tryOut(8, 1, function(2, 1, 0));
            for (int a = 0; a < 8; a++) {
                same("actuator " + a + " stays in MODE 1", s.box.value(8 + a), SAFE[a]);
            }
        }
    }

    private static void everyValue() {
        sentence("f 1: actuator a becomes b");
        for (int b : new int[] {LEAST, -1, 0, 1, 255, 256, 65536, LARGEST}) {
            Station s = new Station();
            s.tryOut(8, 1, function(1, 3, b));
            same("becomes " + b, s.box.value(11), b);
            same("the one before it stays", s.box.value(10), 0);
            same("the one behind it stays", s.box.value(12), 0);
        }
    }

    private static void noSuchSensor() {
        sentence("Sensor k, 0 .. 7, becomes v: true; false if there is none such.");
        Box box = box();
        for (int k = 0; k < 8; k++) {
            yes("sensor " + k, box.sense(k, 100 + k));
        }
        for (int k : new int[] {-1, 8, 9, 15, 16, 31, -8, LEAST, LARGEST}) {
            no("sensor " + k, box.sense(k, 55));
        }
        for (int k = 0; k < 32; k++) {
            same("parameter " + k, box.value(k), k < 8 ? 100 + k : k == 16 || k == 18 ? 1 : 0);
        }
        yes("the least", box.sense(0, LEAST));
        yes("the largest", box.sense(7, LARGEST));
        same("the least", box.value(0), LEAST);
        same("the largest", box.value(7), LARGEST);
    }
}
