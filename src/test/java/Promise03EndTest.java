/** Promise 3: end. */
public final class Promise03EndTest {
    private static final Expect expect = new Expect();

    public static void main(String[] args) {
        Box box = new Box(1, 64, 1, 1, 64);
        expect.yes("0 of 0", box.end(0));
        expect.no("1 of 0", box.end(1));
        expect.no("-1 of 0", box.end(-1));
        expect.no("the least int", box.end(Integer.MIN_VALUE));
        box.feed(1, 2, 3, 4, 5);
        expect.no("21 of 20", box.end(21));
        expect.no("-1 of 20", box.end(-1));
        expect.no("the largest int", box.end(Integer.MAX_VALUE));
        expect.yes("20 of 20", box.end(20));
        expect.yes("19 of 20", box.end(19));
        expect.no("20 of 19", box.end(20));
        box.uplink();
        expect.no("the tape is empty behind uplink", box.end(1));
        firstBytesStay();
        expect.end();
    }

    private static void firstBytesStay() {
        int[] sent = Ground.transmission(Ground.frame(Ground.BYPASS, 0, 1));
        Box box = new Box(1, 64, 1, 1, 64);
        Ground.load(box, Ground.join(sent, sent));
        expect.yes("the first alone", box.end(sent.length));
        expect.same("one came", box.uplink(), 1);
        Ground.load(box, sent);
        expect.no("more than there are", box.end(sent.length + 20));
        expect.yes("less than it takes", box.end(9));
        expect.same("nothing came", box.uplink(), 0);
        expect.same("the receiver waits for more", box.state(5), 1);
    }
}
