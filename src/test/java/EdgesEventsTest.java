/** Edges of services 5 and 19, and of step 5 of a tick. */
public final class EdgesEventsTest extends Edges {
    public static void main(String[] args) {
        noSuchEventToTell();
        allAreToldAtFirst();
        toldOnceMore();
        kindOfEachEvent();
        actionOfNoSuchEvent();
        actionWithAFault();
        actionThatWouldFail();
        actionIsThere();
        firstFailureOfANewAction();
        longestAction();
        noAction();
        actionIsOn();
        actionToldOnceMore();
        actionBeginsOff();
        untoldEventsAct();
        inOrderAlsoThoseRaisedByThat();
        atMost64AreWorked();
        exactly64AreWorked();
        atMost64AreThere();
        takenOutFirst();
        lostWhenTheyAreRaised();
        raisedBehindTheWork();
        raisedBehindTheWorkTakesAPlace();
        noEvents();
        expect.end();
    }

    private static void noSuchEventToTell() {
        sentence("5 5, 5 6: e (1): the event e (0 .. 31) is told, is not told (all are at first): 16 (no such).");
        Station s = new Station();
        for (int kind = 5; kind <= 6; kind++) {
            same("5 " + kind + " of 0", s.tryOut(5, kind, 0), 0);
            same("5 " + kind + " of 31", s.tryOut(5, kind, 31), 0);
            same("5 " + kind + " of 32", s.tryOut(5, kind, 32), 16);
            same("5 " + kind + " of 255", s.tryOut(5, kind, 255), 16);
        }
    }

    private static void allAreToldAtFirst() {
        sentence("the event e (0 .. 31) is told, is not told (all are at first)");
        Station s = new Station();
        for (int e = 0; e < 32; e++) {
            s.tryOut(8, 1, raise(e, 0));
            same("reports of " + e, s.reports.size(), 1);
        }
    }

    private static void toldOnceMore() {
        sentence("(What is on or off already may be told so once more");
        Station s = new Station();
        same("told already", s.tryOut(5, 5, 9), 0);
        s.tryOut(8, 1, raise(9, 0));
        text("told", s.told(), "5 2");
        same("not told", s.tryOut(5, 6, 9), 0);
        same("not told already", s.tryOut(5, 6, 9), 0);
        s.tryOut(8, 1, raise(9, 0));
        text("not told", s.told(), "");
        s.tryOut(8, 1, raise(8, 0));
        text("the one before it is", s.told(), "5 2");
        s.tryOut(8, 1, raise(10, 0));
        text("the one behind it is", s.told(), "5 2");
        same("told again", s.tryOut(5, 5, 9), 0);
        s.tryOut(8, 1, raise(9, 0));
        text("told", s.told(), "5 2");
    }

    private static void kindOfEachEvent() {
        sentence("a REPORT 5 and 1 + e / 8 (whole) is made: e (1), b (4)");
        Station s = new Station();
        int[] values = {0, -1, LEAST, LARGEST, 0x01020304};
        for (int e = 0; e < 32; e++) {
            int b = values[e % values.length];
            s.tryOut(8, 1, raise(e, b));
            text("event " + e, s.told(), "5 " + (e < 8 ? 1 : e < 16 ? 2 : e < 24 ? 3 : 4));
            bytes("event " + e, s.reports.get(0).data(), join(row(e), int4(b)));
        }
    }

    private static void actionOfNoSuchEvent() {
        sentence("19 1: e (1), a command: it is the ACTION of event e, off: 16, 22, 29 (there is one).");
        Station s = new Station();
        same("0", s.tryOut(19, 1, action(0, command(1, 17, 1))), 0);
        same("31", s.tryOut(19, 1, action(31, command(1, 17, 1))), 0);
        same("32", s.tryOut(19, 1, action(32, command(1, 17, 1))), 16);
        same("255", s.tryOut(19, 1, action(255, command(1, 17, 1))), 16);
        for (int kind : new int[] {2, 4, 5}) {
            same("19 " + kind + " of 32", s.tryOut(19, kind, 32), 16);
            same("19 " + kind + " of 255", s.tryOut(19, kind, 255), 16);
        }
    }

    private static int[] changed(int at, int bits) {
        int[] packet = command(1, 17, 1);
        packet[at] ^= bits;
        return Ground.rechecked(packet);
    }

    private static void actionWithAFault() {
        sentence("22 (the command has a FAULT)");
        int[] wrongCheck = command(1, 17, 1);
        wrongCheck[12] ^= 1;
        int[][] faulty = {filled(13, 0), changed(5, 1), join(command(1, 17, 1), row(0)), wrongCheck, changed(0, 16),
            changed(2, 64), changed(1, 1), changed(6, 16), command(1, 17, 2), command(1, 17, 1, 0), command(1, 3, 5),
            command(1, 6, 2, 0, 0, 2, 1), command(1, 11, 4, filled(16, 0))};
        Station s = new Station();
        for (int i = 0; i < faulty.length; i++) {
            same("faulty " + i, s.tryOut(19, 1, action(5, faulty[i])), 22);
        }
        same("there is none", s.tryOut(19, 4, 5), 30);
        same("without a fault", s.tryOut(19, 1, action(5, command(1, 17, 1))), 0);
    }

    private static void actionThatWouldFail() {
        sentence("22 (the command has a FAULT)");
        Station s = new Station();
        same("a FAILURE is none", s.tryOut(19, 1, action(5, command(9, 3, 5, 77))), 0);
        same("nor is a FAULT of a command within it", s.tryOut(19, 1, action(6, command(9, 19, 1, filled(14, 0)))), 0);
        s.order(19, 4, 5);
        s.order(19, 4, 6);
        s.order(8, 1, raise(5, 0));
        s.order(8, 1, raise(6, 0));
        s.tick();
        text("it fails when it is handled", s.told(), "5 1, 1 4, 5 1, 1 4");
        bytes("14", s.reports.get(1).data(), 0x18, 42, 0xC0, 9, 0, 14);
        bytes("22", s.reports.get(3).data(), 0x18, 42, 0xC0, 9, 0, 22);
    }

    private static void actionIsThere() {
        sentence("29 (there is one)");
        Station s = new Station();
        same("new", s.tryOut(19, 1, action(5, tellingTest(1))), 0);
        same("there is one", s.tryOut(19, 1, action(5, tellingTest(2))), 29);
        same("on", s.tryOut(19, 4, 5), 0);
        same("there is one, and it is on", s.tryOut(19, 1, action(5, tellingTest(2))), 29);
        s.tryOut(8, 1, raise(5, 0));
        text("the first is as it was", done(s), "1 ");
        for (int e = 0; e < 32; e++) {
            same("one for each event, " + e, s.tryOut(19, 1, action(e, tellingTest(e))), e == 5 ? 29 : 0);
        }
    }

    private static void firstFailureOfANewAction() {
        sentence("with a FAILURE, the first that is told below");
        Station s = new Station();
        s.tryOut(19, 1, action(5, tellingTest(1)));
        same("16 before 22", s.tryOut(19, 1, action(32, filled(13, 0))), 16);
        same("22 before 29", s.tryOut(19, 1, action(5, filled(13, 0))), 22);
        same("on", s.tryOut(19, 4, 5), 0);
        same("16 before 30 and 15", s.tryOut(19, 2, 32), 16);
        same("30 before 15", s.tryOut(19, 2, 6), 30);
    }

    private static void longestAction() {
        sentence("19 1: e (1), a command: it is the ACTION of event e, off");
        Station s = new Station();
        int[] load = command(9, 6, 2, join(row(0, 0, 222), filled(221, 1), row(99)));
        same("252 bytes in all", command(1, 19, 1, action(3, load)).length, 252);
        same("new", s.tryOut(19, 1, action(3, load)), 0);
        same("on", s.tryOut(19, 4, 3), 0);
        s.tryOut(8, 1, raise(3, 0));
        text("without a fault", s.told(), "5 1");
        same("its last byte", s.box.memory(221), 99);
        same("and no more", s.box.memory(222), 0);
    }

    private static void noAction() {
        sentence("19 2: e: it is gone: 16, 30 (none), 15 (it is on). 19 4, 19 5: e: it is on, off: 16, 30.");
        Station s = new Station();
        for (int kind : new int[] {2, 4, 5}) {
            same("none, 19 " + kind, s.tryOut(19, kind, 5), 30);
        }
        s.tryOut(19, 1, action(5, tellingTest(1)));
        for (int kind : new int[] {2, 4, 5}) {
            same("none of the one before, 19 " + kind, s.tryOut(19, kind, 4), 30);
            same("none of the one behind, 19 " + kind, s.tryOut(19, kind, 6), 30);
        }
        same("gone", s.tryOut(19, 2, 5), 0);
        for (int kind : new int[] {2, 4, 5}) {
            same("none any more, 19 " + kind, s.tryOut(19, kind, 5), 30);
        }
    }

    private static void actionIsOn() {
        sentence("19 2: e: it is gone: 16, 30 (none), 15 (it is on).");
        Station s = new Station();
        s.tryOut(19, 1, action(5, tellingTest(1)));
        s.tryOut(19, 4, 5);
        same("on", s.tryOut(19, 2, 5), 15);
        s.tryOut(8, 1, raise(5, 0));
        text("it is there still", done(s), "1 ");
        same("off", s.tryOut(19, 5, 5), 0);
        same("gone", s.tryOut(19, 2, 5), 0);
    }

    private static void actionToldOnceMore() {
        sentence("(What is on or off already may be told so once more");
        Station s = new Station();
        s.tryOut(19, 1, action(5, tellingTest(1)));
        same("off already", s.tryOut(19, 5, 5), 0);
        s.tryOut(8, 1, raise(5, 0));
        text("off", done(s), "");
        same("on", s.tryOut(19, 4, 5), 0);
        same("on already", s.tryOut(19, 4, 5), 0);
        s.tryOut(8, 1, raise(5, 0));
        text("on, once", done(s), "1 ");
        same("off", s.tryOut(19, 5, 5), 0);
        same("off already", s.tryOut(19, 5, 5), 0);
        s.tryOut(8, 1, raise(5, 0));
        text("off", done(s), "");
    }

    private static void actionBeginsOff() {
        sentence("it is the ACTION of event e, off");
        Station s = new Station();
        s.order(19, 1, action(5, tellingTest(1)));
        s.order(8, 1, raise(5, 0));
        s.tick();
        text("off", s.told(), "5 1");
        s.order(19, 4, 5);
        s.order(19, 5, 5);
        s.order(19, 2, 5);
        s.order(19, 1, action(5, tellingTest(2)));
        s.order(8, 1, raise(5, 0));
        s.tick();
        text("off, though one before was on", s.told(), "5 1");
    }

    private static void untoldEventsAct() {
        sentence("if it is told, a REPORT 5 ... then, if its action is there and on, that command is HANDLED.");
        Station s = new Station();
        s.order(5, 6, 5);
        s.order(19, 1, action(5, tellingTest(1)));
        s.order(19, 4, 5);
        s.order(8, 1, raise(5, 0));
        s.tick();
        text("not told, but done", s.told(), "17 2, 1 7");
    }

    private static void inOrderAlsoThoseRaisedByThat() {
        sentence("(5) Events that were RAISED are worked, in order, also those that are raised by that");
        Station s = new Station();
        s.order(19, 1, action(1, command(1, 8, 1, raise(20, 0))));
        s.order(19, 4, 1);
        s.order(19, 1, action(2, command(1, 19, 5, 2)));
        s.order(19, 4, 2);
        s.tick();
        s.order(8, 1, raise(1, 0));
        s.order(8, 1, raise(2, 0));
        s.order(8, 1, raise(2, 1));
        s.order(8, 1, raise(9, 0));
        s.tick();
        StringBuilder got = new StringBuilder();
        for (Station.Report r : s.reports) {
            got.append(r.data()[0]).append(' ');
        }
        text("the events", got.toString(), "1 2 2 9 20 ");
        same("an action that put itself off was handled once", s.box.value(25), 8 + 2);
    }

    /** Event 2 raises itself by its action, without a report. */
    private static Station withLoop() {
        Station s = new Station();
        s.order(5, 6, 2);
        s.order(19, 1, action(2, command(1, 8, 1, raise(2, 0))));
        s.order(19, 4, 2);
        s.tick();
        return s;
    }

    private static void atMost64AreWorked() {
        sentence("at most 64 in one tick; the rest is lost then");
        Station s = withLoop();
        s.order(8, 1, raise(2, 0));
        s.tick();
        same("three, one, and 64 by the action", s.box.value(25), 68);
        same("the 65th is lost", s.box.value(30), 1);
        same("none is left", s.box.state(4), 0);
        s.tick();
        same("nothing goes on", s.box.value(25), 68);
        s.order(8, 1, raise(2, 0));
        s.order(8, 1, raise(3, 0));
        s.order(8, 1, raise(2, 0));
        s.tick();
        same("three and 63 by the action", s.box.value(25), 68 + 3 + 63);
        same("two more are lost", s.box.value(30), 3);
        same("none is left", s.box.state(4), 0);
    }

    /** With so many entries, each of which raises an event, and by so many ticks before their time. */
    private static Station withTimed(int count, int time, int before) {
        Station s = new Station(64, 256, 4, 1, 64);
        s.order(11, 1);
        for (int i = 0; i < count; i++) {
            s.order(11, 4, entry(time, command(i, 8, 1, raise(24 + i % 8, i))));
            if (i % 6 == 5) {
                s.box.tick();
            }
        }
        for (int t = s.box.value(17); t < time - before; t++) {
            s.box.tick();
        }
        return s;
    }

    private static void exactly64AreWorked() {
        sentence("at most 64 in one tick; the rest is lost then");
        for (int count : new int[] {63, 64}) {
            Station s = withTimed(count, 20, 1);
            s.tick();
            int reports = s.reports.size();
            s.tick();
            same("reports of " + count, reports + s.reports.size(), count);
            same("none is lost of " + count, s.box.value(30), 0);
            same("no report is lost of " + count, s.box.value(27), 0);
        }
    }

    private static void atMost64AreThere() {
        sentence("at most 64 can be there, further ones are lost (parameter 30 is one more for each that is lost)");
        for (int more = 0; more <= 3; more++) {
            Station s = withTimed(64, 20, 1);
            for (int i = 0; i < more; i++) {
                s.order(8, 1, raise(1 + i, 0));
            }
            s.tick();
            same("lost of " + (64 + more), s.box.value(30), more);
            same("none is left", s.box.state(4), 0);
        }
        Station mode = withTimed(64, 20, 1);
        mode.order(8, 1, function(2, 2, 0));
        mode.tick();
        same("the event of a new MODE is lost, too", mode.box.value(30), 1);
        same("but not the MODE", mode.box.value(16), 2);
        Station limit = withTimed(64, 20, 1);
        limit.order(12, 5, limit(1, 0, 1, 5, 6, 3, 1));
        limit.order(12, 1, 1);
        limit.tick();
        same("the event of a limit is lost, too", limit.box.value(30), 1);
        same("but it was BROKEN", limit.box.value(31), 1);
        same("and the ALARM brought the MODE", limit.box.value(16), 0);
    }

    private static void takenOutFirst() {
        sentence("each taken out first");
        // The first of 64 raises one more, which has a place; the second reports how many were lost so far.
        Station s = withTimed(64, 20, 1);
        s.order(3, 1, 1, 200, 1, 30);
        s.order(19, 1, action(24, command(1, 8, 1, raise(3, 0))));
        s.order(19, 4, 24);
        s.order(19, 1, action(25, command(1, 3, 27, 1)));
        s.order(19, 4, 25);
        s.tick();
        for (Station.Report r : s.reports) {
            if (r.service() == 3) {
                bytes("none was lost so far", r.data(), 1, 0, 0, 0, 0);
            }
        }
        yes("it was reported", s.told().startsWith("5 4, 5 4, 3 25, 5 4"));
        same("the eight that were raised by that are the rest", s.box.value(30), 8);
    }

    private static void lostWhenTheyAreRaised() {
        sentence("at most 64 can be there, further ones are lost (parameter 30 is one more for each that is lost)");
        // The first of 64 reports how many were lost when its work began.
        Station s = withTimed(64, 20, 1);
        s.order(3, 1, 1, 200, 1, 30);
        s.order(19, 1, action(24, command(1, 3, 27, 1)));
        s.order(19, 4, 24);
        s.order(8, 1, raise(3, 0));
        s.order(8, 1, raise(3, 0));
        s.tick();
        yes("it was reported", s.told().startsWith("5 4, 3 25"));
        bytes("two were lost by then", s.reports.get(1).data(), 1, 0, 0, 0, 2);
        same("and no more", s.box.value(30), 2);
    }

    private static void raisedBehindTheWork() {
        sentence("(6) If the ALARM is not above the CLOCK: it is none then, and the MODE becomes 0");
        Station s = new Station(1, 256, 4, 1, 64);
        s.order(12, 5, limit(1, 0, 1, 5, 6, 3, 1));
        s.order(12, 1, 1);
        s.tick();
        text("the limit's event", s.told(), "5 1");
        same("the MODE's event waits", s.box.state(4), 1);
        same("it is not lost", s.box.value(30), 0);
        s.tick();
        text("the MODE's event", s.told(), "5 1");
        bytes("event 1 with 0", s.reports.get(0).data(), 1, 0, 0, 0, 0);
        same("none waits", s.box.state(4), 0);
    }

    private static void raisedBehindTheWorkTakesAPlace() {
        sentence("at most 64 can be there, further ones are lost");
        Station s = withTimed(64, 20, 2);
        s.order(12, 5, limit(1, 0, 1, 5, 6, 3, 1));
        s.order(12, 1, 1);
        s.tick();
        same("the MODE's event waits", s.box.state(4), 1);
        s.tick();
        same("so 63 of 64 have a place", s.box.value(30), 1);
        bytes("it is worked first", s.reports.get(0).data(), 1, 0, 0, 0, 0);
    }

    private static void noEvents() {
        sentence("(5) Events that were RAISED are worked");
        Station s = new Station();
        ticks(s, 3);
        text("none", s.told(), "");
        same("lost", s.box.value(30), 0);
    }
}
