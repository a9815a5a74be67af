/** Edges of service 12, of steps 4 and 6 of a tick, and of promise 12 (limit). */
public final class EdgesLimitsTest extends Edges {
    public static void main(String[] args) {
        timesIsZero();
        lowAboveHigh();
        linkAboveOne();
        noSuchParameter();
        noSuchEvent();
        idIsThere();
        sixteenLimits();
        othersStayAsTheyWere();
        newOnceMore();
        firstFailureOfANewLimit();
        refusedLimitChangesNothing();
        noSuchLimitToSwitch();
        limitIsOn();
        switchedOnceMore();
        lowAndHighAreInside();
        lowAndHighAtTheEndsOfInts();
        countAndTimes();
        mostTimes();
        brokenOnceTillInsideAgain();
        offIsNotWatched();
        byIds();
        alarmAndPatience();
        alarmOnlyIfLinked();
        firstAlarmStays();
        alarmOnceMore();
        alarmInModeZero();
        alarmNotAboveTheClock();
        noSuchLimit();
        noSuchWhat();
        expect.end();
    }

    private static void timesIsZero() {
        sentence("13 (times is 0, low above high, link above 1, no such parameter or event)");
        Station s = new Station();
        same("times 0", s.tryOut(12, 5, limit(1, 0, 0, 1, 2, 0, 0)), 13);
        same("times 0 before other bytes", s.tryOut(12, 5, limit(1, 31, 0, -2, -1, 31, 1)), 13);
        same("times 1", s.tryOut(12, 5, limit(1, 0, 1, 1, 2, 0, 0)), 0);
        same("times 255", s.tryOut(12, 5, limit(2, 0, 255, 1, 2, 0, 0)), 0);
    }

    private static void lowAboveHigh() {
        sentence("13 (times is 0, low above high, link above 1, no such parameter or event)");
        int[][] lowAndHigh = {{1, 0}, {-1, -2}, {LARGEST, LEAST}, {0, -1}, {LARGEST, LARGEST - 1}, {LEAST + 1, LEAST}};
        Station s = new Station();
        for (int[] pair : lowAndHigh) {
            same(pair[0] + " above " + pair[1], s.tryOut(12, 5, limit(1, 0, 1, pair[0], pair[1], 0, 0)), 13);
        }
        int id = 1;
        int[][] right = {{0, 0}, {-1, 0}, {LEAST, LARGEST}, {LEAST, LEAST}, {LARGEST, LARGEST}, {-5, -4}};
        for (int[] pair : right) {
            same(pair[0] + " to " + pair[1], s.tryOut(12, 5, limit(id++, 0, 1, pair[0], pair[1], 0, 0)), 0);
        }
    }

    private static void linkAboveOne() {
        sentence("13 (times is 0, low above high, link above 1, no such parameter or event)");
        Station s = new Station();
        same("link 0", s.tryOut(12, 5, limit(1, 0, 1, 1, 2, 0, 0)), 0);
        same("link 1", s.tryOut(12, 5, limit(2, 0, 1, 1, 2, 0, 1)), 0);
        same("link 2", s.tryOut(12, 5, limit(3, 0, 1, 1, 2, 0, 2)), 13);
        same("link 255", s.tryOut(12, 5, limit(3, 0, 1, 1, 2, 0, 255)), 13);
    }

    private static void noSuchParameter() {
        sentence("13 (times is 0, low above high, link above 1, no such parameter or event)");
        Station s = new Station();
        same("parameter 0", s.tryOut(12, 5, limit(1, 0, 1, 1, 2, 0, 0)), 0);
        same("parameter 31", s.tryOut(12, 5, limit(2, 31, 1, 1, 2, 0, 0)), 0);
        same("parameter 32", s.tryOut(12, 5, limit(3, 32, 1, 1, 2, 0, 0)), 13);
        same("parameter 255", s.tryOut(12, 5, limit(3, 255, 1, 1, 2, 0, 0)), 13);
    }

    private static void noSuchEvent() {
        sentence("13 (times is 0, low above high, link above 1, no such parameter or event)");
        Station s = new Station();
        same("event 0", s.tryOut(12, 5, limit(1, 0, 1, 1, 2, 0, 0)), 0);
        same("event 31", s.tryOut(12, 5, limit(2, 0, 1, 1, 2, 31, 0)), 0);
        same("event 32", s.tryOut(12, 5, limit(3, 0, 1, 1, 2, 32, 0)), 13);
        same("event 255", s.tryOut(12, 5, limit(3, 0, 1, 1, 2, 255, 0)), 13);
    }

    private static void idIsThere() {
        sentence("25 (the id is there)");
        Station s = new Station();
        for (int id : new int[] {0, 255, 100}) {
            same("limit " + id, s.tryOut(12, 5, limit(id, 0, 1, 1, 2, 0, 0)), 0);
            same("limit " + id + " once more", s.tryOut(12, 5, limit(id, 0, 1, 1, 2, 0, 0)), 25);
        }
        same("the one before", s.tryOut(12, 5, limit(99, 0, 1, 1, 2, 0, 0)), 0);
        same("the one behind", s.tryOut(12, 5, limit(101, 0, 1, 1, 2, 0, 0)), 0);
    }

    private static Station withSixteen() {
        Station s = new Station();
        for (int i = 1; i <= 16; i++) {
            same("limit " + i, s.tryOut(12, 5, limit(15 * i, 0, 1, 1, 2, 0, 0)), 0);
        }
        return s;
    }

    private static void sixteenLimits() {
        sentence("26 (16 limits are)");
        Station s = withSixteen();
        same("a 17th", s.tryOut(12, 5, limit(1, 0, 1, 1, 2, 0, 0)), 26);
        same("it is not there", s.box.limit(1, 0), NONE);
        for (int i = 1; i <= 16; i++) {
            same("there still, " + i, s.box.limit(15 * i, 0), 0);
        }
        same("one goes", s.tryOut(12, 6, 75), 0);
        same("a place", s.tryOut(12, 5, limit(1, 0, 1, 1, 2, 0, 0)), 0);
        same("one place", s.tryOut(12, 5, limit(2, 0, 1, 1, 2, 0, 0)), 26);
    }

    private static void othersStayAsTheyWere() {
        sentence("12 5: id (1), parameter (1), times (1), low (4), high (4), e (1), link (1): a new limit, off");
        int[] ids = {100, 50, 200, 0, 255};
        for (int linked : ids) {
            Station s = new Station(1, 256, 4, 100, 64);
            for (int id : ids) {
                s.order(12, 5, limit(id, 3, 1, 5, 6, id % 32, id == linked ? 1 : 0));
            }
            s.order(12, 5, limit(7, 4, 1, 5, 6, 7, 0));
            s.tick();
            s.order(12, 6, 7);
            s.tick();
            int alarm = NONE;
            for (int id : ids) {
                s.order(12, 1, id);
                s.tick();
                alarm = id == linked ? s.box.value(17) + 99 : alarm;
                bytes("the event of " + id, s.reports.get(0).data(), id % 32, 0, 0, 0, 0);
                same("the ALARM behind " + id + ", linked is " + linked, s.box.state(1), alarm);
            }
        }
    }

    private static void newOnceMore() {
        sentence("12 5: id (1), parameter (1), times (1), low (4), high (4), e (1), link (1): a new limit, off");
        Station s = new Station();
        s.order(12, 5, limit(7, 0, 9, 5, 6, 20, 1));
        s.order(12, 1, 7);
        ticks(s, 3);
        same("its count", s.box.limit(7, 1), 3);
        s.order(12, 2, 7);
        s.order(12, 6, 7);
        s.order(12, 5, limit(7, 0, 9, 5, 6, 20, 1));
        s.tick();
        same("off", s.box.limit(7, 0), 0);
        same("its count", s.box.limit(7, 1), 0);
        s.tick();
        same("it is not watched", s.box.limit(7, 1), 0);
    }

    private static void firstFailureOfANewLimit() {
        sentence("with a FAILURE, the first that is told below");
        Station s = withSixteen();
        same("13 before 25 and 26", s.tryOut(12, 5, limit(15, 0, 0, 1, 2, 0, 0)), 13);
        same("13 before 26", s.tryOut(12, 5, limit(1, 32, 1, 1, 2, 0, 0)), 13);
        same("25 before 26", s.tryOut(12, 5, limit(15, 0, 1, 1, 2, 0, 0)), 25);
        same("on", s.tryOut(12, 1, 15), 0);
        same("27 before 15", s.tryOut(12, 6, 16), 27);
    }

    private static void refusedLimitChangesNothing() {
        sentence("nothing is done, and a REPORT 1 4 is made");
        Station s = new Station();
        s.order(12, 5, limit(7, 0, 1, 5, 6, 20, 0));
        s.order(12, 1, 7);
        s.box.sense(0, 5);
        s.tick();
        same("it is there", s.tryOut(12, 5, limit(7, 0, 1, 8, 9, 21, 0)), 25);
        same("it is on still", s.box.limit(7, 0), 1);
        same("it is as it was", s.box.limit(7, 1), 0);
        same("it is on", s.tryOut(12, 6, 7), 15);
        same("it is there still", s.box.limit(7, 0), 1);
    }

    private static void noSuchLimitToSwitch() {
        sentence("12 1, 12 2: id (1): the LIMIT is on, off, in both cases its count is 0: 27 (no such).");
        Station s = new Station();
        s.tryOut(12, 5, limit(7, 0, 1, 5, 6, 20, 0));
        for (int kind : new int[] {1, 2, 6}) {
            for (int id : new int[] {0, 6, 8, 255}) {
                same("12 " + kind + " of " + id, s.tryOut(12, kind, id), 27);
            }
        }
        same("gone", s.tryOut(12, 6, 7), 0);
        for (int kind : new int[] {1, 2, 6}) {
            same("12 " + kind + " of one that is gone", s.tryOut(12, kind, 7), 27);
        }
    }

    private static void limitIsOn() {
        sentence("12 6: id: it is gone: 27, 15 (it is on).");
        Station s = new Station();
        s.tryOut(12, 5, limit(7, 0, 1, 0, 6, 20, 0));
        s.tryOut(12, 1, 7);
        same("on", s.tryOut(12, 6, 7), 15);
        same("off", s.tryOut(12, 2, 7), 0);
        same("gone", s.tryOut(12, 6, 7), 0);
        same("no such", s.box.limit(7, 0), NONE);
    }

    private static void switchedOnceMore() {
        sentence("the LIMIT is on, off, in both cases its count is 0");
        Station s = new Station();
        s.tryOut(12, 5, limit(7, 0, 9, 5, 6, 20, 0));
        same("off already", s.tryOut(12, 2, 7), 0);
        same("off", s.box.limit(7, 0), 0);
        same("on", s.tryOut(12, 1, 7), 0);
        ticks(s, 3);
        same("four times outside", s.box.limit(7, 1), 4);
        same("on already", s.tryOut(12, 1, 7), 0);
        same("on", s.box.limit(7, 0), 1);
        same("from 0 again, and once outside", s.box.limit(7, 1), 1);
        ticks(s, 2);
        same("off", s.tryOut(12, 2, 7), 0);
        same("0", s.box.limit(7, 1), 0);
        same("off already", s.tryOut(12, 2, 7), 0);
        same("off", s.box.limit(7, 0), 0);
        same("on", s.tryOut(12, 1, 7), 0);
        same("from 0", s.box.limit(7, 1), 1);
    }

    private static int countWith(int low, int high, int value) {
        Station s = new Station();
        s.order(12, 5, limit(7, 3, 9, low, high, 20, 0));
        s.order(12, 1, 7);
        s.box.sense(3, value);
        s.tick();
        return s.box.limit(7, 1);
    }

    private static void lowAndHighAreInside() {
        sentence("if the parameter's value is low .. high, the count is 0; else it is one more");
        for (int value = -8; value <= 8; value++) {
            same("-5 .. 5 and " + value, countWith(-5, 5, value), value < -5 || value > 5 ? 1 : 0);
            same("3 .. 3 and " + value, countWith(3, 3, value), value == 3 ? 0 : 1);
        }
        same("-5 .. 5 and the least", countWith(-5, 5, LEAST), 1);
        same("-5 .. 5 and the largest", countWith(-5, 5, LARGEST), 1);
    }

    private static void lowAndHighAtTheEndsOfInts() {
        sentence("if the parameter's value is low .. high, the count is 0; else it is one more");
        int[] values = {LEAST, LEAST + 1, -1, 0, 1, LARGEST - 1, LARGEST};
        for (int value : values) {
            same("all and " + value, countWith(LEAST, LARGEST, value), 0);
            same("the least and " + value, countWith(LEAST, LEAST, value), value == LEAST ? 0 : 1);
            same("the largest and " + value, countWith(LARGEST, LARGEST, value), value == LARGEST ? 0 : 1);
            same("below 0 and " + value, countWith(LEAST, -1, value), value < 0 ? 0 : 1);
            same("0 and above and " + value, countWith(0, LARGEST, value), value >= 0 ? 0 : 1);
        }
    }

    private static void countAndTimes() {
        sentence("where it is TIMES then, the limit is BROKEN: its event is RAISED with the value");
        for (int times = 1; times <= 4; times++) {
            Station s = new Station();
            s.order(12, 5, limit(7, 3, times, 5, 6, 20, 0));
            s.order(12, 1, 7);
            for (int t = 1; t <= 6; t++) {
                s.box.sense(3, -t);
                s.tick();
                same("the count", s.box.limit(7, 1), t);
                text("TIMES " + times + " at " + t, s.told(), t == times ? "5 3" : "");
                same("BROKEN", s.box.value(31), t >= times ? 1 : 0);
            }
            Station inside = new Station();
            inside.order(12, 5, limit(7, 3, times, 5, 6, 20, 0));
            inside.order(12, 1, 7);
            for (int t = 1; t <= 12; t++) {
                inside.box.sense(3, t % times == 0 ? 5 : 7);
                inside.tick();
                text("inside each time before, " + times, inside.told(), "");
            }
        }
    }

    private static void mostTimes() {
        sentence("where it is TIMES then, the limit is BROKEN");
        Station s = new Station(1, 64, 1, 1, 64);
        s.order(12, 5, limit(7, 3, 255, 5, 6, 20, 0));
        s.order(12, 1, 7);
        for (int t = 1; t <= 258; t++) {
            same("a report at " + t, s.box.tick(), t == 255 ? 1 : 0);
            same("the count at " + t, s.box.limit(7, 1), t);
        }
        same("BROKEN once", s.box.value(31), 1);
    }

    private static void brokenOnceTillInsideAgain() {
        sentence("else it is one more, and where it is TIMES then, the limit is BROKEN");
        Station s = new Station();
        s.order(12, 5, limit(7, 3, 2, 5, 6, 20, 0));
        s.order(12, 1, 7);
        String got = "";
        for (int value : new int[] {9, 9, 9, 9, 5, 9, 9, 9, 6, 9, 5, 4, 4}) {
            s.box.sense(3, value);
            s.tick();
            got += s.reports.size() + "";
        }
        text("events", got, "0100001000001");
        same("BROKEN", s.box.value(31), 3);
    }

    private static void offIsNotWatched() {
        sentence("(4) Limits that are on");
        Station s = new Station();
        s.order(12, 5, limit(7, 3, 1, 5, 6, 20, 1));
        ticks(s, 3);
        text("none is told", s.told(), "");
        same("the count", s.box.limit(7, 1), 0);
        same("BROKEN", s.box.value(31), 0);
        same("no ALARM", s.box.state(1), NONE);
    }

    private static void byIds() {
        sentence("(4) Limits that are on, by ids");
        Station s = new Station();
        int[] ids = {200, 0, 127, 255, 128, 1};
        for (int id : ids) {
            // Each sees by parameter 31 how many were BROKEN before it.
            s.order(12, 5, limit(id, 31, 1, -9, -1, id % 32, 0));
        }
        s.tick();
        for (int id : ids) {
            s.order(12, 1, id);
        }
        s.tick();
        StringBuilder got = new StringBuilder();
        for (Station.Report r : s.reports) {
            got.append(r.data()[0]).append(':').append(r.data()[4]).append(' ');
        }
        text("event and value", got.toString(), "0:0 1:1 31:2 0:3 8:4 31:5 ");
    }

    private static Station linked(int patience) {
        Station s = new Station(1, 256, 4, patience, 64);
        s.order(12, 5, limit(7, 0, 1, 5, 6, 20, 1));
        s.order(12, 1, 7);
        return s;
    }

    private static void alarmAndPatience() {
        sentence("if it is linked, the ALARM is the CLOCK + PATIENCE - 1, if it was none.");
        for (int patience = 1; patience <= 5; patience++) {
            Station s = linked(patience);
            s.box.sense(0, 5);
            ticks(s, 3);
            s.box.sense(0, 4);
            for (int t = 4; t < 3 + patience; t++) {
                s.tick();
                same("the ALARM at " + t, s.box.state(1), 3 + patience);
                same("the MODE at " + t, s.box.value(16), 1);
            }
            s.tick();
            same("the MODE with PATIENCE " + patience, s.box.value(16), 0);
            same("no ALARM any more", s.box.state(1), NONE);
        }
    }

    private static void alarmOnlyIfLinked() {
        sentence("if it is linked, the ALARM is the CLOCK + PATIENCE - 1");
        Station s = new Station(1, 256, 4, 2, 64);
        s.order(12, 5, limit(7, 0, 1, 5, 6, 20, 0));
        s.order(12, 1, 7);
        for (int t = 0; t < 4; t++) {
            s.tick();
            same("no ALARM", s.box.state(1), NONE);
            same("the MODE", s.box.value(16), 1);
        }
        same("BROKEN", s.box.value(31), 1);
    }

    private static void firstAlarmStays() {
        sentence("the ALARM is the CLOCK + PATIENCE - 1, if it was none.");
        Station s = linked(6);
        s.order(12, 5, limit(8, 0, 3, 5, 6, 21, 1));
        s.order(12, 1, 8);
        s.tick();
        same("the first", s.box.state(1), 6);
        ticks(s, 2);
        same("both are BROKEN", s.box.value(31), 2);
        same("the first stays", s.box.state(1), 6);
        s.box.sense(0, 5);
        s.order(12, 2, 7);
        s.order(12, 6, 7);
        s.tick();
        same("it stays, though all is well and the limit gone", s.box.state(1), 6);
        ticks(s, 2);
        same("the MODE", s.box.value(16), 0);
        same("no ALARM any more", s.box.state(1), NONE);
    }

    private static void alarmOnceMore() {
        sentence("the ALARM is the CLOCK + PATIENCE - 1, if it was none.");
        Station s = linked(2);
        ticks(s, 2);
        same("the MODE", s.box.value(16), 0);
        s.box.sense(0, 5);
        s.tryOut(8, 1, function(2, 1, 0));
        same("the MODE", s.box.value(16), 1);
        s.box.sense(0, 9);
        s.tick();
        same("a new ALARM at 4", s.box.state(1), 5);
        s.tick();
        same("the MODE", s.box.value(16), 0);
    }

    private static void alarmInModeZero() {
        sentence("it is none then, and the MODE becomes 0, if it is not.");
        Station s = linked(3);
        s.order(8, 1, function(2, 0, 0));
        s.tick();
        same("the ALARM", s.box.state(1), 3);
        s.tick();
        s.tick();
        same("no ALARM any more", s.box.state(1), NONE);
        same("no event of a MODE", s.box.state(4), 0);
        s.tick();
        text("nor later", s.told(), "");
    }

    private static void alarmNotAboveTheClock() {
        sentence("(6) If the ALARM is not above the CLOCK");
        Station s = linked(1);
        s.order(8, 1, function(1, 0, 77));
        s.tick();
        same("in the very tick", s.box.value(16), 0);
        int[] safe = {0, 0, 0, 0, 50, 50, 100, 1};
        for (int a = 0; a < 8; a++) {
            same("actuator " + a, s.box.value(8 + a), safe[a]);
        }
        same("no ALARM any more", s.box.state(1), NONE);
        Station late = linked(100);
        for (int t = 1; t < 100; t++) {
            late.box.tick();
            same("the MODE at " + t, late.box.value(16), 1);
        }
        late.box.tick();
        same("the MODE at 100", late.box.value(16), 0);
    }

    private static void noSuchLimit() {
        sentence("NONE if there is no such limit, or what.");
        Station s = new Station();
        for (int id : new int[] {0, 100, 255}) {
            s.order(12, 5, limit(id, 0, 1, 5, 6, 20, 0));
        }
        s.tick();
        for (int id : new int[] {0, 100, 255}) {
            same("limit " + id + ", on", s.box.limit(id, 0), 0);
            same("limit " + id + ", count", s.box.limit(id, 1), 0);
        }
        for (int id : new int[] {-1, 1, 99, 101, 254, 256, 256 + 100, -156, LEAST, LARGEST}) {
            same("limit " + id + ", on", s.box.limit(id, 0), NONE);
            same("limit " + id + ", count", s.box.limit(id, 1), NONE);
        }
        s.tryOut(12, 6, 100);
        same("one that is gone", s.box.limit(100, 0), NONE);
        same("its count", s.box.limit(100, 1), NONE);
    }

    private static void noSuchWhat() {
        sentence("NONE if there is no such limit, or what.");
        Station s = new Station();
        s.order(12, 5, limit(7, 0, 1, 5, 6, 20, 0));
        s.order(12, 1, 7);
        s.tick();
        same("on", s.box.limit(7, 0), 1);
        same("count", s.box.limit(7, 1), 1);
        for (int what : new int[] {-1, 2, 3, 4, LEAST, LARGEST}) {
            same("what " + what, s.box.limit(7, what), NONE);
            same("what " + what + " of none", s.box.limit(8, what), NONE);
        }
    }
}
