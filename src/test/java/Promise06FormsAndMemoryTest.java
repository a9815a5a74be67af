/** Promise 6, services 3, 6, 8 and 17. */
public final class Promise06FormsAndMemoryTest {
    private static final Expect expect = new Expect();

    public static void main(String[] args) {
        formsComeAndGo();
        formsThatCannotBe();
        formsOfATick();
        memoryIsLoadedAndDumped();
        memoryHasItsEnds();
        actuatorsAreSet();
        modesChange();
        eventsAreRaised();
        expect.end();
    }

    private static void formsComeAndGo() {
        Station s = new Station();
        s.box.sense(2, -2);
        expect.same("new", s.tryOut(3, 1, 200, 2, 3, 2, 16, 17), 0);
        s.tick();
        expect.text("not on", s.told(), "");
        expect.same("asked for", s.tryOut(3, 27, 200), 0);
        expect.text("its report", s.told(), "3 25");
        expect.bytes("its values", s.reports.get(0).data(), 200, 255, 255, 255, 254, 0, 0, 0, 1, 0, 0, 0, 3);
        expect.same("there already", s.tryOut(3, 1, 200, 2, 1, 2), 11);
        expect.same("on", s.tryOut(3, 5, 200), 0);
        expect.same("on is not to go", s.tryOut(3, 3, 200), 15);
        expect.text("reported with the failure at 6", s.told(), "1 4, 3 25");
        expect.same("on once more", s.tryOut(3, 5, 200), 0);
        expect.text("7 is not every 2", s.told(), "");
        expect.same("off", s.tryOut(3, 6, 200), 0);
        expect.same("off once more", s.tryOut(3, 6, 200), 0);
        expect.same("gone", s.tryOut(3, 3, 200), 0);
        for (int kind : new int[] {3, 5, 6, 27}) {
            expect.same("no such form, kind " + kind, s.tryOut(3, kind, 200), 14);
        }
        expect.same("new again", s.tryOut(3, 1, 200, 1, 1, 0), 0);
        s.tick();
        expect.text("not on again", s.told(), "");
    }

    private static void formsThatCannotBe() {
        Station s = new Station();
        expect.same("every 0", s.tryOut(3, 1, 1, 0, 1, 1), 13);
        expect.same("n 0", s.tryOut(3, 1, 1, 1, 0), 13);
        expect.same("n 9", s.tryOut(3, 1, 1, 1, 9, 1, 2, 3, 4, 5, 6, 7, 8, 9), 13);
        expect.same("no parameter 32", s.tryOut(3, 1, 1, 1, 3, 1, 31, 32), 13);
        expect.same("n 8, every 255", s.tryOut(3, 1, 1, 255, 8, 1, 1, 1, 1, 31, 31, 0, 0), 0);
        expect.same("13 before 11", s.tryOut(3, 1, 1, 0, 1, 1), 13);
        for (int id = 2; id <= 8; id++) {
            expect.same("form " + id, s.tryOut(3, 1, id * 30, 1, 1, 1), 0);
        }
        expect.same("8 are", s.tryOut(3, 1, 9, 1, 1, 1), 12);
        expect.same("11 before 12", s.tryOut(3, 1, 60, 1, 1, 1), 11);
        expect.same("13 before 12", s.tryOut(3, 1, 9, 1, 1, 40), 13);
        expect.same("one goes", s.tryOut(3, 3, 60), 0);
        expect.same("and gives its place", s.tryOut(3, 1, 0, 1, 1, 1), 0);
    }

    private static void formsOfATick() {
        Station s = new Station();
        int[][] forms = {{9, 2}, {255, 1}, {0, 3}, {100, 6}, {50, 4}};
        for (int[] f : forms) {
            s.order(3, 1, f[0], f[1], 1, 17);
        }
        s.tick();
        for (int[] f : forms) {
            s.order(3, 5, f[0]);
        }
        for (int t = 2; t <= 24; t++) {
            s.tick();
            StringBuilder got = new StringBuilder();
            for (Station.Report r : s.reports) {
                got.append(r.data()[0]).append(' ');
                expect.bytes("clock", r.data(), r.data()[0], 0, 0, 0, t);
            }
            String due = (t % 3 == 0 ? "0 " : "") + (t % 2 == 0 ? "9 " : "") + (t % 4 == 0 ? "50 " : "")
                + (t % 6 == 0 ? "100 " : "") + "255 ";
            expect.text("by ids, at " + t, got.toString(), due);
        }
    }

    private static void memoryIsLoadedAndDumped() {
        Station s = new Station();
        expect.same("load", s.tryOut(6, 2, 1, 2, 3, 7, 8, 255), 0);
        expect.same("before", s.box.memory(257), 0);
        expect.same("first", s.box.memory(258), 7);
        expect.same("second", s.box.memory(259), 8);
        expect.same("third", s.box.memory(260), 255);
        expect.same("behind", s.box.memory(261), 0);
        expect.same("dump", s.tryOut(6, 5, 1, 1, 5), 0);
        expect.text("told", s.told(), "6 6");
        expect.bytes("dump", s.reports.get(0).data(), 1, 1, 5, 0, 7, 8, 255, 0);
        expect.same("check", s.tryOut(6, 9, 1, 2, 0, 3), 0);
        expect.text("told", s.told(), "6 10");
        int check = Ground.check(7, 8, 255);
        expect.bytes("check", s.reports.get(0).data(), 1, 2, 0, 3, check >>> 8, check & 255);
        expect.same("a long dump", s.tryOut(6, 5, 1, 2, 255), 0);
        expect.same("its bytes", s.reports.get(0).bytes().length, 277);
        expect.same("its check", Ground.check(s.reports.get(0).bytes()), 0);
        expect.same("check of all", s.tryOut(6, 9, 0, 0, 16, 0), 0);
        int[] all = new int[4096];
        all[258] = 7;
        all[259] = 8;
        all[260] = 255;
        int[] got = s.reports.get(0).data();
        expect.same("check of all", got[4] * 256 + got[5], Ground.check(all));
    }

    private static void memoryHasItsEnds() {
        Station s = new Station();
        expect.same("load none", s.tryOut(6, 2, 0, 0, 0), 17);
        expect.same("dump none", s.tryOut(6, 5, 0, 0, 0), 17);
        expect.same("check none", s.tryOut(6, 9, 0, 0, 0, 0), 17);
        expect.same("load the last", s.tryOut(6, 2, 15, 254, 2, 3, 4), 0);
        expect.same("it is there", s.box.memory(4095), 4);
        expect.same("load over the end", s.tryOut(6, 2, 15, 255, 2, 9, 9), 17);
        expect.same("nothing was done", s.box.memory(4095), 4);
        expect.same("load behind the end", s.tryOut(6, 2, 16, 0, 1, 1), 17);
        expect.same("load far behind", s.tryOut(6, 2, 255, 255, 1, 1), 17);
        expect.same("dump the last", s.tryOut(6, 5, 15, 255, 1), 0);
        expect.same("dump over the end", s.tryOut(6, 5, 15, 255, 2), 17);
        expect.same("check over the end", s.tryOut(6, 9, 0, 1, 16, 0), 17);
        expect.same("check the last", s.tryOut(6, 9, 15, 255, 0, 1), 0);
        expect.same("check too many", s.tryOut(6, 9, 255, 255, 255, 255), 17);
    }

    private static int[] function(int f, int a, int b) {
        return Ground.join(Ground.row(f, a), Ground.int4(b));
    }

    private static void actuatorsAreSet() {
        Station s = new Station();
        for (int a = 0; a < 8; a++) {
            expect.same("actuator " + a, s.tryOut(8, 1, function(1, a, 5 - 1000 * a)), 0);
        }
        for (int a = 0; a < 8; a++) {
            expect.same("actuator " + a, s.box.value(8 + a), 5 - 1000 * a);
        }
        expect.same("no actuator 8", s.tryOut(8, 1, function(1, 8, 1)), 18);
        expect.same("no function 0", s.tryOut(8, 1, function(0, 0, 1)), 18);
        expect.same("no function 4", s.tryOut(8, 1, function(4, 0, 1)), 18);
        expect.same("MODE 0", s.tryOut(8, 1, function(2, 0, 0)), 0);
        expect.same("not in MODE 0", s.tryOut(8, 1, function(1, 0, 1)), 19);
        expect.same("18 before 19", s.tryOut(8, 1, function(1, 8, 1)), 18);
    }

    private static void modesChange() {
        Station s = new Station();
        expect.same("to 2", s.tryOut(8, 1, function(2, 2, 9)), 0);
        expect.same("mode", s.box.value(16), 2);
        expect.text("event 1 in the same tick", s.told(), "5 1");
        expect.bytes("with the new one", s.reports.get(0).data(), 1, 0, 0, 0, 2);
        expect.same("to 2 again", s.tryOut(8, 1, function(2, 2, 9)), 0);
        expect.text("no event", s.told(), "");
        s.order(8, 1, function(1, 3, 44));
        s.order(8, 1, function(1, 4, 45));
        s.tick();
        expect.same("to 1", s.tryOut(8, 1, function(2, 1, 0)), 0);
        expect.same("actuators stay", s.box.value(11), 44);
        expect.same("to 0", s.tryOut(8, 1, function(2, 0, 0)), 0);
        expect.text("event 1", s.told(), "5 1");
        expect.bytes("with 0", s.reports.get(0).data(), 1, 0, 0, 0, 0);
        int[] safe = {0, 0, 0, 0, 50, 50, 100, 1};
        for (int a = 0; a < 8; a++) {
            expect.same("actuator " + a, s.box.value(8 + a), safe[a]);
        }
        expect.same("0 to 0", s.tryOut(8, 1, function(2, 0, 0)), 0);
        expect.text("no event", s.told(), "");
        expect.same("0 to 2", s.tryOut(8, 1, function(2, 2, 0)), 19);
        expect.same("0 to 3", s.tryOut(8, 1, function(2, 3, 0)), 18);
        expect.same("0 to 1", s.tryOut(8, 1, function(2, 1, 0)), 0);
        expect.same("mode", s.box.value(16), 1);
        expect.same("actuators stay", s.box.value(14), 100);
        expect.same("1 to 3", s.tryOut(8, 1, function(2, 3, 0)), 18);
    }

    private static void eventsAreRaised() {
        Station s = new Station();
        for (int e = 0; e < 32; e++) {
            expect.same("event " + e, s.tryOut(8, 1, function(3, e, e - 10)), 0);
            expect.text("told", s.told(), "5 " + (1 + e / 8));
            expect.bytes("data", s.reports.get(0).data(), Ground.join(Ground.row(e), Ground.int4(e - 10)));
        }
        expect.same("no event 32", s.tryOut(8, 1, function(3, 32, 0)), 18);
    }
}
