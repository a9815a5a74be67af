/** Promise 9: word, each of its bits. */
public final class Promise09WordTest {
    private static final Expect expect = new Expect();

    public static void main(String[] args) {
        Box box = new Box(1, 64, 1, 1, 64);
        expect.same("at first", box.word(), 0b00000001_00000000_00_0_0_0_00_0_00000000);
        send(box, 3, 0, 130, 0, 255);
        expect.same("NEXT 255, BESIDE 1", box.word(), 0b00000001_00000000_00_0_0_0_01_0_11111111);
        send(box, 3, 0, 130, 0, 0xA5);
        expect.same("NEXT 165, BESIDE 2", box.word(), 0b00000001_00000000_00_0_0_0_10_0_10100101);
        send(box, 0, 0xA6, 1);
        expect.same("AGAIN", box.word(), 0b00000001_00000000_00_0_0_1_10_0_10100101);
        send(box, 0, 0, 1);
        expect.same("locked", box.word(), 0b00000001_00000000_00_1_0_1_10_0_10100101);
        send(box, 3, 0, 0);
        expect.same("UNLOCK, BESIDE 3", box.word(), 0b00000001_00000000_00_0_0_0_11_0_10100101);
        for (int i = 0; i < 8; i++) {
            send(box, 0, 0xA5 + i, 1);
        }
        send(box, 0, 0xAD, 1);
        expect.same("WAITS and AGAIN", box.word(), 0b00000001_00000000_00_0_1_1_11_0_10101101);
        expect.same("asking changes nothing", box.word(), 0b00000001_00000000_00_0_1_1_11_0_10101101);
        box.tick();
        expect.same("WAITS is off", box.word(), 0b00000001_00000000_00_0_0_1_11_0_10101101);
        send(box, 1, 0, 1);
        expect.same("BESIDE 0", box.word(), 0b00000001_00000000_00_0_0_1_00_0_10101101);
        expect.end();
    }

    private static void send(Box box, int flags, int number, int... body) {
        Ground.up(box, Ground.transmission(Ground.frame(flags, number, body)));
    }
}
