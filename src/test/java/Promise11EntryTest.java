/** Promise 11: entry. */
public final class Promise11EntryTest {
    private static final Expect expect = new Expect();

    public static void main(String[] args) {
        Station s = new Station(4, 256, 4, 1, 64);
        expect.nothingThere("of none", () -> s.box.entry(0, 0));
        add(s, 30, Ground.command(16383, 0, 3, 27, 1));
        add(s, 20, Ground.command(2, 0, 17, 1));
        add(s, 30, Ground.command(3, 0, 8, 1, 0, 0, 0, 0, 0, 0));
        add(s, 10, Ground.command(0, 0, 11, 17));
        s.tick();
        int[][] due = {{10, 0, 11 * 256 + 17}, {20, 2, 17 * 256 + 1}, {30, 16383, 3 * 256 + 27}, {30, 3, 8 * 256 + 1}};
        for (int i = 0; i < 4; i++) {
            for (int what = 0; what < 3; what++) {
                expect.same("entry(" + i + ", " + what + ")", s.box.entry(i, what), due[i][what]);
            }
        }
        int[] wrong = {-1, 4, 5, 64, Integer.MIN_VALUE, Integer.MAX_VALUE};
        for (int i : wrong) {
            expect.nothingThere("entry " + i, () -> s.box.entry(i, 0));
        }
        int[] wrongWhat = {-1, 3, 4, Integer.MIN_VALUE, Integer.MAX_VALUE};
        for (int what : wrongWhat) {
            expect.nothingThere("what " + what, () -> s.box.entry(0, what));
        }
        for (int t = 2; t <= 10; t++) {
            s.tick();
        }
        expect.same("the first is gone", s.box.entry(0, 0), 20);
        expect.nothingThere("three are left", () -> s.box.entry(3, 0));
        expect.end();
    }

    private static void add(Station s, int time, int... command) {
        s.order(11, 4, Ground.join(Ground.int4(time), command));
    }
}
