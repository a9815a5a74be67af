/** Promise 6, services 5, 12 and 19, and steps 4 to 6 of a tick. */
public final class Promise06LimitsAndEventsTest {
    private static final Expect expect = new Expect();

    public static void main(String[] args) {
        limitsThatCannotBe();
        limitIsBrokenAtItsCount();
        edgesAreInside();
        limitsGoByIds();
        alarmBringsTheSafeState();
        alarmWithPatienceOne();
        firstAlarmStays();
        eventsAreToldOrNot();
        actionsComeAndGo();
        actionsAreHandled();
        atMost64AreWorked();
        atMost64AreThere();
        expect.end();
    }

    private static int[] limit(int id, int parameter, int times, int low, int high, int e, int link) {
        return Ground.join(Ground.row(id, parameter, times), Ground.int4(low), Ground.int4(high), Ground.row(e, link));
    }

    private static int[] raise(int e, int b) {
        return Ground.join(Ground.row(3, e), Ground.int4(b));
    }

    private static void limitsThatCannotBe() {
        Station s = new Station();
        expect.same("times 0", s.tryOut(12, 5, limit(1, 0, 0, 1, 2, 0, 0)), 13);
        expect.same("low above high", s.tryOut(12, 5, limit(1, 0, 1, 2, 1, 0, 0)), 13);
        expect.same("link 2", s.tryOut(12, 5, limit(1, 0, 1, 1, 2, 0, 2)), 13);
        expect.same("no parameter", s.tryOut(12, 5, limit(1, 32, 1, 1, 2, 0, 0)), 13);
        expect.same("no event", s.tryOut(12, 5, limit(1, 0, 1, 1, 2, 32, 0)), 13);
        expect.same("all at their ends", s.tryOut(12, 5, limit(1, 31, 255, -7, -7, 31, 1)), 0);
        expect.same("13 before 25", s.tryOut(12, 5, limit(1, 0, 0, 1, 2, 0, 0)), 13);
        expect.same("there already", s.tryOut(12, 5, limit(1, 0, 1, 1, 2, 0, 0)), 25);
        for (int id = 2; id <= 16; id++) {
            expect.same("limit " + id, s.tryOut(12, 5, limit(id * 15, 0, 1, 1, 2, 0, 0)), 0);
        }
        expect.same("16 are", s.tryOut(12, 5, limit(2, 0, 1, 1, 2, 0, 0)), 26);
        expect.same("25 before 26", s.tryOut(12, 5, limit(30, 0, 1, 1, 2, 0, 0)), 25);
        expect.same("13 before 26", s.tryOut(12, 5, limit(2, 0, 0, 1, 2, 0, 0)), 13);
        expect.same("no limit 2", s.tryOut(12, 1, 2), 27);
        expect.same("no limit 2", s.tryOut(12, 2, 2), 27);
        expect.same("no limit 2", s.tryOut(12, 6, 2), 27);
        expect.same("on", s.tryOut(12, 1, 1), 0);
        expect.same("on is not to go", s.tryOut(12, 6, 1), 15);
        expect.same("off", s.tryOut(12, 2, 1), 0);
        expect.same("gone", s.tryOut(12, 6, 1), 0);
        expect.same("no limit any more", s.box.limit(1, 0), OrbitBox.NONE);
        expect.same("a place again", s.tryOut(12, 5, limit(2, 0, 1, 1, 2, 0, 0)), 0);
    }

    private static void limitIsBrokenAtItsCount() {
        Station s = new Station();
        s.order(12, 5, limit(4, 2, 3, 10, 20, 9, 0));
        s.tick();
        s.tick();
        expect.same("off: no count", s.box.limit(4, 1), 0);
        s.order(12, 1, 4);
        s.tick();
        expect.same("counted in the same tick", s.box.limit(4, 1), 1);
        s.tick();
        expect.text("not yet", s.told(), "");
        s.box.sense(2, 15);
        s.tick();
        expect.same("inside: from 0 again", s.box.limit(4, 1), 0);
        s.box.sense(2, 21);
        s.tick();
        s.tick();
        s.box.sense(2, 22);
        s.tick();
        expect.text("broken", s.told(), "5 2");
        expect.bytes("with the value", s.reports.get(0).data(), 9, 0, 0, 0, 22);
        expect.same("broken once", s.box.value(31), 1);
        s.tick();
        expect.text("only once", s.told(), "");
        expect.same("the count goes on", s.box.limit(4, 1), 4);
        s.order(12, 1, 4);
        s.tick();
        expect.same("on once more: from 0", s.box.limit(4, 1), 1);
        s.tick();
        s.tick();
        expect.text("broken again", s.told(), "5 2");
        expect.same("broken twice", s.box.value(31), 2);
        s.order(12, 2, 4);
        s.tick();
        expect.same("off: 0", s.box.limit(4, 1), 0);
        expect.same("off", s.box.limit(4, 0), 0);
        expect.same("without a link there is no alarm", s.box.state(1), OrbitBox.NONE);
    }

    private static void edgesAreInside() {
        Station s = new Station();
        s.order(12, 5, limit(1, 0, 1, -5, 5, 8, 0));
        s.order(12, 1, 1);
        int[][] valuesAndCounts = {{-5, 0}, {5, 0}, {6, 1}, {0, 0}, {-6, 1}, {Integer.MIN_VALUE, 2}, {5, 0},
            {Integer.MAX_VALUE, 1}};
        for (int[] row : valuesAndCounts) {
            s.box.sense(0, row[0]);
            s.tick();
            expect.same("count with " + row[0], s.box.limit(1, 1), row[1]);
        }
    }

    private static void limitsGoByIds() {
        Station s = new Station();
        for (int id : new int[] {200, 3, 90, 0, 255}) {
            s.order(12, 5, limit(id, 31, 1, -9, -1, 8 + id % 7, 0));
        }
        s.tick();
        for (int id : new int[] {3, 200, 255, 0, 90}) {
            s.order(12, 1, id);
        }
        s.tick();
        StringBuilder got = new StringBuilder();
        for (Station.Report r : s.reports) {
            got.append(r.data()[0] - 8).append(':').append(r.data()[4]).append(' ');
        }
        // Each sees how many were broken before it.
        expect.text("events", got.toString(), "0:0 3:1 6:2 4:3 3:4 ");
    }

    private static void alarmBringsTheSafeState() {
        Station s = new Station(1, 256, 4, 3, 64);
        s.order(8, 1, Ground.join(Ground.row(1, 0), Ground.int4(7)));
        s.order(12, 5, limit(1, 0, 1, 1, 2, 9, 1));
        s.order(12, 1, 1);
        s.tick();
        expect.same("broken at 1", s.box.state(1), 3);
        expect.same("mode", s.box.value(16), 1);
        s.tick();
        expect.same("mode", s.box.value(16), 1);
        s.tick();
        expect.same("at 3", s.box.value(16), 0);
        expect.same("no alarm any more", s.box.state(1), OrbitBox.NONE);
        int[] safe = {0, 0, 0, 0, 50, 50, 100, 1};
        for (int a = 0; a < 8; a++) {
            expect.same("actuator " + a, s.box.value(8 + a), safe[a]);
        }
        expect.same("event 1 waits for the next tick", s.box.state(4), 1);
        expect.text("not told yet", s.told(), "");
        s.tick();
        expect.text("told", s.told(), "5 1");
        expect.bytes("with 0", s.reports.get(0).data(), 1, 0, 0, 0, 0);
        s.order(12, 1, 1);
        s.tick();
        s.tick();
        s.tick();
        expect.same("an alarm in MODE 0 goes, too", s.box.state(1), OrbitBox.NONE);
        expect.same("without an event", s.box.state(4), 0);
    }

    private static void alarmWithPatienceOne() {
        Station s = new Station(1, 256, 4, 1, 64);
        s.order(12, 5, limit(1, 0, 1, 1, 2, 9, 1));
        s.order(12, 1, 1);
        s.tick();
        expect.same("in the same tick", s.box.value(16), 0);
        expect.same("no alarm any more", s.box.state(1), OrbitBox.NONE);
    }

    private static void firstAlarmStays() {
        Station s = new Station(1, 256, 4, 5, 64);
        s.order(12, 5, limit(1, 0, 1, 1, 2, 9, 1));
        s.order(12, 5, limit(2, 0, 3, 1, 2, 9, 1));
        s.order(12, 1, 1);
        s.order(12, 1, 2);
        s.tick();
        expect.same("the first", s.box.state(1), 5);
        s.tick();
        s.tick();
        expect.same("both broken", s.box.value(31), 2);
        expect.same("the first stays", s.box.state(1), 5);
        s.box.sense(0, 1);
        s.order(12, 2, 1);
        s.tick();
        expect.same("even if all is well again", s.box.state(1), 5);
    }

    private static void eventsAreToldOrNot() {
        Station s = new Station();
        expect.same("not told", s.tryOut(5, 6, 17), 0);
        s.order(8, 1, raise(17, 5));
        s.order(8, 1, raise(16, 6));
        s.tick();
        expect.same("only the other", s.reports.size(), 1);
        expect.bytes("only the other", s.reports.get(0).data(), 16, 0, 0, 0, 6);
        expect.same("not told once more", s.tryOut(5, 6, 17), 0);
        expect.same("told", s.tryOut(5, 5, 17), 0);
        expect.same("told once more", s.tryOut(5, 5, 17), 0);
        s.order(8, 1, raise(17, 5));
        s.tick();
        expect.text("told again", s.told(), "5 3");
        expect.same("no such", s.tryOut(5, 5, 32), 16);
        expect.same("no such", s.tryOut(5, 6, 255), 16);
        expect.same("the last", s.tryOut(5, 6, 31), 0);
    }

    private static int[] action(int e, int... command) {
        return Ground.join(Ground.row(e), command);
    }

    private static void actionsComeAndGo() {
        Station s = new Station();
        int[] test = Ground.command(77, 8, 17, 1);
        int[] faulty = test.clone();
        faulty[12] ^= 4;
        expect.same("16 before 22", s.tryOut(19, 1, action(32, faulty)), 16);
        expect.same("faulty", s.tryOut(19, 1, action(5, faulty)), 22);
        expect.same("new", s.tryOut(19, 1, action(5, test)), 0);
        expect.same("there is one", s.tryOut(19, 1, action(5, test)), 29);
        expect.same("22 before 29", s.tryOut(19, 1, action(5, faulty)), 22);
        for (int kind : new int[] {2, 4, 5}) {
            expect.same("no such event, " + kind, s.tryOut(19, kind, 32), 16);
            expect.same("none, " + kind, s.tryOut(19, kind, 6), 30);
        }
        s.order(8, 1, raise(5, 1));
        s.tick();
        expect.text("off at first", s.told(), "5 1");
        expect.same("on", s.tryOut(19, 4, 5), 0);
        expect.same("on once more", s.tryOut(19, 4, 5), 0);
        expect.same("on is not to go", s.tryOut(19, 2, 5), 15);
        s.order(8, 1, raise(5, 1));
        s.tick();
        expect.text("handled behind the report", s.told(), "5 1, 17 2, 1 7");
        expect.same("off", s.tryOut(19, 5, 5), 0);
        s.order(8, 1, raise(5, 1));
        s.tick();
        expect.text("off", s.told(), "5 1");
        expect.same("gone", s.tryOut(19, 2, 5), 0);
        expect.same("none", s.tryOut(19, 4, 5), 30);
        expect.same("on when it went would be off now", s.tryOut(19, 1, action(5, test)), 0);
        s.order(8, 1, raise(5, 1));
        s.tick();
        expect.text("off", s.told(), "5 1");
    }

    private static void actionsAreHandled() {
        Station s = new Station();
        s.order(19, 1, action(5, Ground.command(9, 0, 3, 27, 99)));
        s.order(19, 4, 5);
        s.order(19, 1, action(6, Ground.command(9, 0, 8, 1, raise(5, 60))));
        s.order(19, 4, 6);
        s.order(5, 6, 5);
        s.tick();
        s.order(8, 1, raise(6, 1));
        s.order(8, 1, raise(7, 2));
        s.tick();
        expect.text("in order; untold ones act, too", s.told(), "5 1, 5 1, 1 4");
        expect.bytes("its failure", s.reports.get(2).data(), 0x18, 42, 0xC0, 9, 0, 14);
        expect.same("handled", s.box.value(25), 9);
        expect.same("failed", s.box.value(26), 1);
        expect.same("all are worked", s.box.state(4), 0);
    }

    private static void atMost64AreWorked() {
        Station s = new Station();
        s.order(5, 6, 2);
        s.order(19, 1, action(2, Ground.command(1, 0, 8, 1, raise(2, 0))));
        s.order(19, 4, 2);
        s.order(8, 1, raise(2, 0));
        s.tick();
        expect.same("64 actions and four orders", s.box.value(25), 68);
        expect.same("the last one raised is lost", s.box.value(30), 1);
        expect.same("none is left", s.box.state(4), 0);
        s.tick();
        expect.same("so nothing goes on", s.box.value(25), 68);
    }

    private static void atMost64AreThere() {
        Station s = new Station();
        s.order(11, 1);
        int[] up = Ground.command(1, 0, 8, 1, raise(31, 0));
        for (int i = 0; i < 64; i++) {
            s.order(11, 4, Ground.join(Ground.int4(100), up));
            s.tick();
        }
        for (int t = 65; t < 100; t++) {
            s.tick();
        }
        s.order(8, 1, raise(30, 0));
        s.order(8, 1, raise(29, 0));
        s.order(8, 1, Ground.join(Ground.row(2, 2), Ground.int4(0)));
        s.tick();
        expect.same("three found no place", s.box.value(30), 3);
        expect.same("all were worked", s.box.state(4), 0);
        s.tick();
        s.tick();
        expect.same("64 reports, not one lost", s.box.value(27), 0);
        expect.same("mode", s.box.value(16), 2);
    }
}
