/** Edges of service 3, and of step 7 of a tick. */
public final class EdgesFormsTest extends Edges {
    public static void main(String[] args) {
        everyIsZero();
        nIsZero();
        nAboveEight();
        noSuchParameter();
        idIsThere();
        eightForms();
        firstFailureOfANewForm();
        refusedFormChangesNothing();
        goneForms();
        noSuchForm();
        formIsOn();
        toldOnceMore();
        everyId();
        smallestAndLargestReport();
        everyDividesTheClock();
        largestEvery();
        othersStayAsTheyWere();
        behindTheAlarm();
        byIds();
        expect.end();
    }

    private static int[] form(int id, int every, int... parameters) {
        return join(row(id, every, parameters.length), parameters);
    }

    private static void everyIsZero() {
        sentence("13 (every or n is 0, n above 8, no such parameter)");
        Station s = new Station();
        same("every 0", s.tryOut(3, 1, form(1, 0, 5)), 13);
        same("every 0 before other bytes", s.tryOut(3, 1, form(255, 0, 31, 31, 31)), 13);
        same("every 1", s.tryOut(3, 1, form(1, 1, 5)), 0);
        same("every 255", s.tryOut(3, 1, form(2, 255, 5)), 0);
    }

    private static void nIsZero() {
        sentence("13 (every or n is 0, n above 8, no such parameter)");
        Station s = new Station();
        same("n 0", s.tryOut(3, 1, form(1, 1)), 13);
        same("n 1", s.tryOut(3, 1, form(1, 1, 0)), 0);
    }

    private static void nAboveEight() {
        sentence("13 (every or n is 0, n above 8, no such parameter)");
        Station s = new Station();
        for (int n = 1; n <= 12; n++) {
            same("n " + n, s.tryOut(3, 1, form(1, 1, filled(n, 1))), n <= 8 ? 0 : 13);
            s.tryOut(3, 3, 1);
        }
        same("n 236", s.tryOut(3, 1, form(1, 1, filled(236, 1))), 13);
    }

    private static void noSuchParameter() {
        sentence("13 (every or n is 0, n above 8, no such parameter)");
        for (int n = 1; n <= 8; n++) {
            for (int at = 0; at < n; at++) {
                Station s = new Station();
                int[] parameters = filled(n, 31);
                same("31 everywhere", s.tryOut(3, 1, form(1, 1, parameters)), 0);
                parameters[at] = 32;
                same("32 at " + at + " of " + n, s.tryOut(3, 1, form(2, 1, parameters)), 13);
                parameters[at] = 255;
                same("255 at " + at + " of " + n, s.tryOut(3, 1, form(2, 1, parameters)), 13);
                parameters[at] = 0;
                same("0 at " + at + " of " + n, s.tryOut(3, 1, form(2, 1, parameters)), 0);
            }
        }
    }

    private static void idIsThere() {
        sentence("11 (the id is there)");
        Station s = new Station();
        same("7", s.tryOut(3, 1, form(7, 1, 5)), 0);
        same("7 once more", s.tryOut(3, 1, form(7, 1, 5)), 11);
        same("6", s.tryOut(3, 1, form(6, 1, 5)), 0);
        same("8", s.tryOut(3, 1, form(8, 1, 5)), 0);
        s.tryOut(3, 5, 7);
        same("7 while it is on", s.tryOut(3, 1, form(7, 1, 5)), 11);
    }

    private static Station withEight() {
        Station s = new Station();
        for (int i = 1; i <= 8; i++) {
            same("form " + i, s.tryOut(3, 1, form(30 * i, 1, 5)), 0);
        }
        return s;
    }

    private static void eightForms() {
        sentence("12 (8 forms are)");
        Station s = withEight();
        same("a ninth", s.tryOut(3, 1, form(1, 1, 5)), 12);
        same("it is not there", s.tryOut(3, 27, 1), 14);
        same("one goes", s.tryOut(3, 3, 120), 0);
        same("there is a place", s.tryOut(3, 1, form(1, 1, 5)), 0);
        same("one place", s.tryOut(3, 1, form(2, 1, 5)), 12);
    }

    private static void firstFailureOfANewForm() {
        sentence("with a FAILURE, the first that is told below");
        Station s = withEight();
        same("13 before 11 and 12", s.tryOut(3, 1, form(30, 0, 5)), 13);
        same("13 before 12", s.tryOut(3, 1, form(1, 1, 32)), 13);
        same("11 before 12", s.tryOut(3, 1, form(30, 1, 5)), 11);
    }

    private static void refusedFormChangesNothing() {
        sentence("nothing is done, and a REPORT 1 4 is made");
        Station s = new Station();
        s.box.sense(3, 33);
        s.box.sense(4, 44);
        s.tryOut(3, 1, form(9, 5, 3));
        same("11", s.tryOut(3, 1, form(9, 1, 4, 4)), 11);
        s.tryOut(3, 27, 9);
        bytes("the form is as it was", s.reports.get(0).data(), 9, 0, 0, 0, 33);
    }

    private static void goneForms() {
        sentence("3 3: id: the form is gone: 14 (no such), 15 (it is on).");
        Station s = withEight();
        same("the first", s.tryOut(3, 3, 30), 0);
        same("the last", s.tryOut(3, 3, 240), 0);
        same("one between", s.tryOut(3, 3, 120), 0);
        for (int id : new int[] {60, 90, 150, 180, 210}) {
            same("there still, " + id, s.tryOut(3, 27, id), 0);
            same("its id", s.reports.get(0).data()[0], id);
        }
        for (int id : new int[] {30, 120, 240}) {
            same("gone, " + id, s.tryOut(3, 27, id), 14);
            same("gone twice, " + id, s.tryOut(3, 3, id), 14);
        }
    }

    private static void noSuchForm() {
        sentence("3 5, 3 6: id: it is on, off: 14. 3 27: id: its REPORT is made: 14.");
        Station s = new Station();
        s.tryOut(3, 1, form(100, 1, 5));
        for (int kind : new int[] {3, 5, 6, 27}) {
            for (int id : new int[] {0, 99, 101, 255}) {
                same("3 " + kind + " of " + id, s.tryOut(3, kind, id), 14);
            }
        }
    }

    private static void formIsOn() {
        sentence("3 3: id: the form is gone: 14 (no such), 15 (it is on).");
        Station s = new Station();
        s.tryOut(3, 1, form(1, 200, 5));
        s.tryOut(3, 5, 1);
        same("it is on", s.tryOut(3, 3, 1), 15);
        same("it is there still", s.tryOut(3, 27, 1), 0);
        same("off", s.tryOut(3, 6, 1), 0);
        same("gone", s.tryOut(3, 3, 1), 0);
    }

    private static void toldOnceMore() {
        sentence("(What is on or off already may be told so once more");
        Station s = new Station();
        s.tryOut(3, 1, form(1, 1, 5));
        same("off already", s.tryOut(3, 6, 1), 0);
        text("off", s.told(), "");
        same("on", s.tryOut(3, 5, 1), 0);
        text("on in the same tick", s.told(), "3 25");
        same("on already", s.tryOut(3, 5, 1), 0);
        text("one report", s.told(), "3 25");
        same("off", s.tryOut(3, 6, 1), 0);
        text("off in the same tick", s.told(), "");
        same("off already", s.tryOut(3, 6, 1), 0);
        text("off", s.told(), "");
    }

    private static void everyId() {
        sentence("3 1: id (1), every (1), n (1), n parameters (1 each): a new FORM, not on");
        for (int id : new int[] {0, 1, 127, 128, 255}) {
            Station s = new Station();
            same("id " + id, s.tryOut(3, 1, form(id, 1, 17)), 0);
            text("not on", s.told(), "");
            same("asked for", s.tryOut(3, 27, id), 0);
            bytes("its report", s.reports.get(0).data(), id, 0, 0, 0, 2);
        }
    }

    private static void smallestAndLargestReport() {
        sentence("The REPORT 3 25 of a form: its id, its parameters' values (4 each).");
        Station s = new Station();
        s.box.sense(0, LEAST);
        s.box.sense(1, LARGEST);
        s.box.sense(2, -1);
        s.box.sense(7, 0x01020304);
        s.tryOut(3, 1, form(5, 1, 0));
        s.tryOut(3, 27, 5);
        bytes("one value", s.reports.get(0).data(), 5, 128, 0, 0, 0);
        s.tryOut(3, 1, form(6, 1, 0, 1, 2, 7, 7, 3, 16, 17));
        s.tryOut(3, 27, 6);
        bytes("eight values", s.reports.get(0).data(), 6, 128, 0, 0, 0, 127, 255, 255, 255, 255, 255, 255, 255, 1, 2, 3, 4,
            1, 2, 3, 4, 0, 0, 0, 0, 0, 0, 0, 1, 0, 0, 0, 4);
    }

    private static void everyDividesTheClock() {
        sentence("(7) Forms that are on, by ids, whose EVERY divides the CLOCK: their REPORTS are made.");
        Station s = new Station();
        for (int every = 1; every <= 8; every++) {
            s.order(3, 1, form(every, every, 17));
        }
        s.tick();
        for (int every = 1; every <= 8; every++) {
            s.order(3, 5, every);
        }
        for (int t = 2; t <= 42; t++) {
            s.tick();
            StringBuilder got = new StringBuilder();
            StringBuilder due = new StringBuilder();
            for (Station.Report r : s.reports) {
                got.append(r.data()[0]).append(' ');
            }
            for (int every = 1; every <= 8; every++) {
                due.append(t % every == 0 ? every + " " : "");
            }
            text("at " + t, got.toString(), due.toString());
        }
    }

    private static void largestEvery() {
        sentence("(7) Forms that are on, by ids, whose EVERY divides the CLOCK: their REPORTS are made.");
        Station s = new Station(1, 64, 1, 1, 64);
        s.order(3, 1, form(1, 255, 17));
        s.order(3, 5, 1);
        for (int t = 1; t <= 260; t++) {
            same("busy frames at " + t, s.box.tick(), t == 255 ? 1 : 0);
        }
    }

    private static void othersStayAsTheyWere() {
        sentence("3 1: id (1), every (1), n (1), n parameters (1 each): a new FORM, not on");
        Station s = new Station();
        for (int k = 0; k < 8; k++) {
            s.box.sense(k, 10 * k);
        }
        int[] ids = {100, 50, 200, 0, 75, 255, 25, 150};
        for (int id : ids) {
            s.tryOut(3, 1, form(id, 200, 7, 6, 5, 4, 3, 2, 1, id % 8));
        }
        for (int id : ids) {
            reportIs(s, id);
        }
        s.tryOut(3, 3, 75);
        s.tryOut(3, 3, 0);
        for (int id : new int[] {100, 50, 200, 255, 25, 150}) {
            reportIs(s, id);
        }
    }

    private static void reportIs(Station s, int id) {
        same("form " + id, s.tryOut(3, 27, id), 0);
        int[] data = s.reports.get(0).data();
        bytes("its report", row(data[0], data[4], data[8], data[28], data[32]), id, 70, 60, 10, id % 8 * 10);
    }

    private static void behindTheAlarm() {
        sentence("(7) Forms that are on, by ids, whose EVERY divides the CLOCK: their REPORTS are made.");
        Station s = new Station(1, 256, 4, 1, 64);
        s.order(3, 1, form(1, 1, 16, 12, 30));
        s.order(3, 5, 1);
        s.order(12, 5, limit(1, 16, 1, 0, 0, 4, 1));
        s.order(12, 1, 1);
        s.tick();
        text("the limit's event, then the form", s.told(), "5 1, 3 25");
        bytes("it sees the safe state that came in step 6", s.reports.get(1).data(), 1, 0, 0, 0, 0, 0, 0, 0, 50, 0, 0, 0, 0);
    }

    private static void byIds() {
        sentence("(7) Forms that are on, by ids");
        Station s = new Station();
        int[] ids = {200, 0, 127, 255, 128, 1};
        for (int id : ids) {
            s.order(3, 1, form(id, 1, 17));
        }
        s.tick();
        for (int id : ids) {
            s.order(3, 5, id);
        }
        s.tick();
        StringBuilder got = new StringBuilder();
        for (Station.Report r : s.reports) {
            got.append(r.data()[0]).append(' ');
        }
        text("the ids", got.toString(), "0 1 127 128 200 255 ");
    }
}
