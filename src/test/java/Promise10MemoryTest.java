/** Promise 10: memory. */
public final class Promise10MemoryTest {
    private static final Expect expect = new Expect();

    public static void main(String[] args) {
        Station s = new Station();
        s.order(6, 2, 0, 0, 2, 255, 128);
        s.order(6, 2, 15, 255, 1, 200);
        int[] many = new int[200];
        for (int i = 0; i < many.length; i++) {
            many[i] = 255 - i;
        }
        s.order(6, 2, Ground.join(Ground.row(4, 0, 200), many));
        expect.same("not yet", s.box.memory(0), 0);
        s.tick();
        expect.same("the first", s.box.memory(0), 255);
        expect.same("the second", s.box.memory(1), 128);
        expect.same("the third", s.box.memory(2), 0);
        expect.same("the last", s.box.memory(4095), 200);
        for (int i = 0; i < many.length; i++) {
            expect.same("byte " + i, s.box.memory(1024 + i), 255 - i);
        }
        expect.same("before", s.box.memory(1023), 0);
        expect.same("behind", s.box.memory(1224), 0);
        int[] wrong = {-1, 4096, 4097, Integer.MIN_VALUE, Integer.MAX_VALUE};
        for (int k : wrong) {
            expect.same("memory(" + k + ")", s.box.memory(k), OrbitBox.NONE);
        }
        expect.end();
    }
}
