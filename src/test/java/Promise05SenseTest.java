/** Promise 5: sense. */
public final class Promise05SenseTest {
    private static final Expect expect = new Expect();

    public static void main(String[] args) {
        Box box = new Box(1, 64, 1, 1, 64);
        for (int k = 0; k < 8; k++) {
            expect.yes("sensor " + k, box.sense(k, 100 - 50 * k));
        }
        for (int k = 0; k < 8; k++) {
            expect.same("value " + k, box.value(k), 100 - 50 * k);
        }
        expect.yes("the least int", box.sense(0, Integer.MIN_VALUE));
        expect.yes("the largest int", box.sense(7, Integer.MAX_VALUE));
        int[] wrong = {-1, 8, 9, 16, Integer.MIN_VALUE, Integer.MAX_VALUE};
        for (int k : wrong) {
            expect.no("no sensor " + k, box.sense(k, 77));
        }
        expect.same("the first", box.value(0), Integer.MIN_VALUE);
        expect.same("the last", box.value(7), Integer.MAX_VALUE);
        for (int k = 8; k < 16; k++) {
            expect.same("actuator " + k, box.value(k), 0);
        }
        expect.same("mode", box.value(16), 1);
        box.tick();
        expect.same("it stays over a tick", box.value(7), Integer.MAX_VALUE);
        expect.end();
    }
}
