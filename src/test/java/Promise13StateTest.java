/** Promise 13: state. */
public final class Promise13StateTest {
    private static final Expect expect = new Expect();

    public static void main(String[] args) {
        channelOneAndRetrieval();
        alarm();
        storeBytes();
        raisedEvents();
        receiver();
        otherNumbersAreNone();
        expect.end();
    }

    private static void channelOneAndRetrieval() {
        Station s = new Station(1, 64, 1, 1, 16384);
        s.order(15, 1, 6);
        for (int t = 0; t < 20; t++) {
            s.order(6, 5, 0, 0, 255);
            s.tick();
        }
        while (s.box.value(29) > 0) {
            s.tick();
        }
        expect.same("none is under way", s.box.state(2), 0);
        s.order(15, 9, Ground.join(Ground.int4(0), Ground.int4(99)));
        expect.same("not yet", s.box.state(2), 0);
        s.tick();
        expect.same("under way", s.box.state(2), 1);
        expect.same("waiting", s.box.state(0), 14 * 277 - 52);
        s.tick();
        expect.same("waiting", s.box.state(0), 14 * 277 - 2 * 52);
        for (int t = 0; t < 200; t++) {
            s.tick();
        }
        expect.same("over", s.box.state(2), 0);
        expect.same("nothing waits", s.box.state(0), 0);
        expect.same("channel 0 is another", s.box.value(29), 0);
    }

    private static void alarm() {
        Station s = new Station(1, 64, 1, 4, 64);
        s.order(12, 5, Ground.join(Ground.row(1, 0, 1), Ground.int4(5), Ground.int4(6), Ground.row(4, 1)));
        s.order(12, 1, 1);
        expect.same("none", s.box.state(1), OrbitBox.NONE);
        for (int t = 1; t <= 3; t++) {
            s.tick();
            expect.same("the alarm", s.box.state(1), 4);
        }
        s.tick();
        expect.same("none", s.box.state(1), OrbitBox.NONE);
    }

    private static void storeBytes() {
        Station s = new Station(1, 64, 1, 1, 64);
        s.order(15, 1, 17);
        for (int i = 1; i <= 5; i++) {
            s.order(17, 1);
            s.tick();
            expect.same("bytes", s.box.state(3), Math.min(i, 3) * 19);
        }
    }

    private static void raisedEvents() {
        Station s = new Station(1, 64, 1, 1, 64);
        s.order(8, 1, 2, 0, 0, 0, 0, 0);
        s.order(8, 1, 3, 5, 0, 0, 0, 0);
        s.tick();
        expect.same("worked in the tick", s.box.state(4), 0);
        s.order(8, 1, 2, 1, 0, 0, 0, 0);
        s.order(12, 5, Ground.join(Ground.row(1, 0, 1), Ground.int4(5), Ground.int4(6), Ground.row(4, 1)));
        s.order(12, 1, 1);
        s.tick();
        expect.same("what the alarm raises is not", s.box.state(4), 1);
        s.tick();
        expect.same("but in the next", s.box.state(4), 0);
    }

    private static void receiver() {
        Box box = new Box(1, 64, 1, 1, 64);
        Ground.up(box, Ground.MARK);
        expect.same("collects", box.state(5), 1);
        box.tick();
        expect.same("a tick is nothing to it", box.state(5), 1);
        Ground.up(box, Ground.WRONG_BLOCK);
        expect.same("searches", box.state(5), 0);
    }

    private static void otherNumbersAreNone() {
        Box box = new Box(1, 64, 1, 1, 64);
        int[] wrong = {-1, -2, 6, 7, Integer.MIN_VALUE, Integer.MAX_VALUE};
        for (int what : wrong) {
            expect.same("state(" + what + ")", box.state(what), OrbitBox.NONE);
        }
    }
}
