/** Promise 12: limit. */
public final class Promise12LimitTest {
    private static final Expect expect = new Expect();

    public static void main(String[] args) {
        Station s = new Station();
        for (int id : new int[] {255, 0, 9}) {
            s.order(12, 5, Ground.join(Ground.row(id, 0, 2), Ground.int4(5), Ground.int4(6), Ground.row(4, 0)));
        }
        s.tick();
        for (int id : new int[] {0, 9, 255}) {
            expect.same("off", s.box.limit(id, 0), 0);
            expect.same("count", s.box.limit(id, 1), 0);
        }
        s.order(12, 1, 9);
        s.tick();
        expect.same("on", s.box.limit(9, 0), 1);
        expect.same("count", s.box.limit(9, 1), 1);
        expect.same("the others are off", s.box.limit(0, 0) + s.box.limit(255, 0), 0);
        for (int i = 2; i <= 300; i++) {
            s.tick();
            expect.same("the count goes on", s.box.limit(9, 1), i);
        }
        int[] wrong = {-1, 1, 8, 10, 254, 256, 265, Integer.MIN_VALUE, Integer.MAX_VALUE};
        for (int id : wrong) {
            expect.same("limit(" + id + ", 0)", s.box.limit(id, 0), OrbitBox.NONE);
            expect.same("limit(" + id + ", 1)", s.box.limit(id, 1), OrbitBox.NONE);
        }
        int[] wrongWhat = {-1, 2, 3, Integer.MIN_VALUE, Integer.MAX_VALUE};
        for (int what : wrongWhat) {
            expect.same("limit(9, " + what + ")", s.box.limit(9, what), OrbitBox.NONE);
        }
        s.order(12, 6, 0);
        s.tick();
        expect.same("gone", s.box.limit(0, 0), OrbitBox.NONE);
        expect.same("the others stay", s.box.limit(9, 0), 1);
        expect.end();
    }
}
