/** Promise 6, the steps of a tick in their order, and its answer. */
public final class Promise06TickOrderTest {
    private static final Expect expect = new Expect();

    public static void main(String[] args) {
        stepsInOrder();
        answerCountsBusyFrames();
        formsSeeTheSafeState();
        expect.end();
    }

    private static void stepsInOrder() {
        Station s = new Station(4, 256, 4, 1, 1000);
        s.order(11, 1);
        s.order(11, 4, Ground.join(Ground.int4(2), Ground.command(1, 0, 17, 1)));
        s.order(3, 1, 1, 1, 1, 17);
        s.order(3, 5, 1);
        s.order(12, 5, Ground.join(Ground.row(1, 0, 1), Ground.int4(0), Ground.int4(0), Ground.row(4, 0)));
        s.order(12, 1, 1);
        s.order(15, 1, 3);
        s.tick();
        expect.text("the form alone", s.told(), "3 25");
        s.box.sense(0, 1);
        s.order(6, 5, 0, 0, 1);
        s.order(8, 1, 3, 8, 0, 0, 0, 0);
        s.order(15, 9, Ground.join(Ground.int4(2), Ground.int4(2)));
        s.tick();
        expect.text("entry, queue, events, form", s.told(), "17 2, 6 6, 5 2, 5 1, 3 25");
        expect.text("the form of this very tick is retrieved", s.replayed(), "3 25");
        for (Station.Report r : s.reports) {
            expect.same("the clock had grown before", r.clock(), 2);
        }
    }

    private static void answerCountsBusyFrames() {
        for (int frames = 1; frames <= 4; frames++) {
            Station s = new Station(1, 64, frames, 1, 64);
            expect.same("none", s.tick(), 0);
            s.order(6, 5, 0, 0, 100);
            expect.same("122 bytes of 52 a frame", s.tick(), Math.min(3, frames));
        }
    }

    private static void formsSeeTheSafeState() {
        Station s = new Station(1, 256, 4, 1, 64);
        s.order(3, 1, 1, 1, 2, 16, 12);
        s.order(3, 5, 1);
        s.order(12, 5, Ground.join(Ground.row(1, 16, 1), Ground.int4(0), Ground.int4(0), Ground.row(4, 1)));
        s.order(12, 1, 1);
        s.tick();
        expect.text("the event, then the form", s.told(), "5 1, 3 25");
        expect.bytes("the limit saw MODE 1", s.reports.get(0).data(), 4, 0, 0, 0, 1);
        expect.bytes("the form sees MODE 0", s.reports.get(1).data(), 1, 0, 0, 0, 0, 0, 0, 0, 50);
    }
}
