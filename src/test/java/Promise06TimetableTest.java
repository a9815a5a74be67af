/** Promise 6, service 11 and step 2 of a tick; promise 11, entry, has a test of its own. */
public final class Promise06TimetableTest {
    private static final Expect expect = new Expect();

    public static void main(String[] args) {
        entriesAreHandledAtTheirTime();
        offTheyGoUnhandled();
        ofOneTimeInTheOrderTheyCame();
        entriesThatCannotBe();
        entriesMayBringEntries();
        emptied();
        droppedByNumber();
        shifted();
        shiftedWhileDue();
        toldInOrder();
        beforeTheQueue();
        expect.end();
    }

    private static int[] entry(int time, int... command) {
        return Ground.join(Ground.int4(time), command);
    }

    private static int[] test(int number) {
        return Ground.command(number, 8, 17, 1);
    }

    private static String numbers(Station s) {
        StringBuilder text = new StringBuilder();
        for (Station.Report r : s.reports) {
            if (r.service() == 1) {
                text.append(r.data()[3]).append(' ');
            }
        }
        return text.toString();
    }

    private static void entriesAreHandledAtTheirTime() {
        Station s = new Station();
        s.order(11, 1);
        s.order(11, 4, entry(4, test(40)));
        s.order(11, 4, entry(2, test(20)));
        s.tick();
        expect.text("1", s.told(), "");
        expect.same("two", s.box.value(20), 2);
        s.tick();
        expect.text("2", s.told(), "17 2, 1 7");
        expect.bytes("the command's bytes", s.reports.get(1).data(), 0x18, 42, 0xC0, 20);
        expect.same("one", s.box.value(20), 1);
        s.tick();
        expect.text("3", s.told(), "");
        s.tick();
        expect.text("4", numbers(s), "40 ");
        expect.same("none", s.box.value(20), 0);
        expect.same("handled", s.box.value(25), 5);
    }

    private static void offTheyGoUnhandled() {
        Station s = new Station();
        s.order(11, 4, entry(2, test(1)));
        s.order(11, 4, entry(4, test(2)));
        s.tick();
        s.tick();
        expect.text("off at first", s.told(), "");
        expect.same("it is gone", s.box.value(20), 1);
        expect.same("not handled", s.box.value(25), 2);
        s.order(11, 1);
        s.tick();
        s.order(11, 2);
        s.tick();
        expect.text("on when it was due, off behind that", numbers(s), "2 ");
        s.order(11, 1);
        s.order(11, 4, entry(6, Ground.command(3, 8, 11, 2)));
        s.order(11, 4, entry(6, test(4)));
        s.order(11, 4, entry(6, Ground.command(5, 8, 11, 1)));
        s.tick();
        s.tick();
        expect.text("an entry puts it off", numbers(s), "3 ");
        expect.same("all three are gone", s.box.value(20), 0);
    }

    private static void ofOneTimeInTheOrderTheyCame() {
        Station s = new Station();
        s.order(11, 1);
        int[] times = {5, 4, 5, 3, 4, 5};
        for (int i = 0; i < times.length; i++) {
            s.order(11, 4, entry(times[i], test(i)));
        }
        s.tick();
        s.tick();
        s.tick();
        expect.text("at 3", numbers(s), "3 ");
        s.tick();
        expect.text("at 4", numbers(s), "1 4 ");
        s.tick();
        expect.text("at 5", numbers(s), "0 2 5 ");
    }

    private static void entriesThatCannotBe() {
        Station s = new Station(2, 256, 4, 1, 64);
        s.tick();
        s.tick();
        int[] faulty = test(1);
        faulty[11] ^= 1;
        expect.same("22 before 20", s.tryOut(11, 4, entry(0, faulty)), 22);
        expect.same("a kind that is none", s.tryOut(11, 4, entry(99, Ground.command(1, 0, 17, 9))), 22);
        expect.same("a length that is none", s.tryOut(11, 4, entry(99, Ground.command(1, 0, 3, 5, 1, 2))), 22);
        expect.same("too long", s.tryOut(11, 4, entry(99, Ground.join(test(1), Ground.row(0)))), 22);
        expect.same("a failure is none yet", s.tryOut(11, 4, entry(99, Ground.command(1, 0, 3, 5, 77))), 0);
        expect.same("the time is now", s.tryOut(11, 4, entry(8, test(1))), 20);
        expect.same("the time is next", s.tryOut(11, 4, entry(10, test(1))), 0);
        expect.same("the least time", s.tryOut(11, 4, entry(Integer.MIN_VALUE, test(1))), 20);
        expect.same("now one is there", s.box.value(20), 1);
        expect.same("the largest time", s.tryOut(11, 4, entry(Integer.MAX_VALUE, test(1))), 0);
        expect.same("two are there", s.tryOut(11, 4, entry(99, test(1))), 21);
        expect.same("20 before 21", s.tryOut(11, 4, entry(1, test(1))), 20);
        expect.same("22 before 21", s.tryOut(11, 4, entry(99, faulty)), 22);
    }

    private static void entriesMayBringEntries() {
        Station s = new Station(1, 256, 4, 1, 64);
        s.order(11, 1);
        int[] inner = Ground.command(2, 8, 11, 4, entry(5, test(3)));
        s.order(11, 4, entry(3, inner));
        s.tick();
        expect.same("what it is", s.box.entry(0, 2), 11 * 256 + 4);
        s.tick();
        s.tick();
        expect.text("the only place is free for it", numbers(s), "2 ");
        expect.bytes("the report has its own bytes", s.reports.get(0).data(), 0x18, 42, 0xC0, 2);
        expect.same("the inner one", s.box.entry(0, 1), 3);
        s.tick();
        s.tick();
        expect.text("and is handled", numbers(s), "3 ");
    }

    private static void emptied() {
        Station s = new Station();
        s.order(11, 1);
        s.order(11, 4, entry(9, test(1)));
        s.order(11, 4, entry(8, test(2)));
        s.tick();
        expect.same("empty", s.tryOut(11, 3), 0);
        expect.same("none", s.box.value(20), 0);
        s.order(11, 4, entry(4, test(3)));
        s.tick();
        s.tick();
        expect.text("it is off, too", s.told(), "");
        expect.same("gone unhandled", s.box.value(20), 0);
        expect.same("empty once more", s.tryOut(11, 3), 0);
    }

    private static void droppedByNumber() {
        Station s = new Station();
        int[] numbers = {7, 8, 7, 16383, 0};
        for (int i = 0; i < numbers.length; i++) {
            s.order(11, 4, entry(50 + i, test(numbers[i])));
        }
        s.tick();
        expect.same("no 9", s.tryOut(11, 5, 0, 9), 23);
        expect.same("both 7, modulo 16384", s.tryOut(11, 5, 0x40, 7), 0);
        expect.same("three are left", s.box.value(20), 3);
        expect.same("8", s.box.entry(0, 1), 8);
        expect.same("16383", s.box.entry(1, 1), 16383);
        expect.same("its time", s.box.entry(1, 0), 53);
        expect.same("no 7 any more", s.tryOut(11, 5, 0, 7), 23);
        expect.same("16383", s.tryOut(11, 5, 255, 255), 0);
        expect.same("0", s.tryOut(11, 5, 0, 0), 0);
        expect.same("8", s.tryOut(11, 5, 0, 8), 0);
        expect.same("of none", s.tryOut(11, 5, 0, 8), 23);
    }

    private static void shifted() {
        Station s = new Station();
        expect.same("none is there", s.tryOut(11, 15, Ground.int4(Integer.MIN_VALUE)), 0);
        s.order(11, 4, entry(20, test(1)));
        s.order(11, 4, entry(30, test(2)));
        s.tick();
        expect.same("later", s.tryOut(11, 15, Ground.int4(5)), 0);
        expect.same("first", s.box.entry(0, 0), 25);
        expect.same("second", s.box.entry(1, 0), 35);
        expect.same("to the next tick", s.tryOut(11, 15, Ground.int4(-20)), 0);
        expect.same("first", s.box.entry(0, 0), 5);
        expect.same("second", s.box.entry(1, 0), 15);
        expect.same("by nothing, though it is due", s.tryOut(11, 15, Ground.int4(0)), 0);
        expect.same("it is gone by then", s.box.value(20), 1);
        expect.same("to this very tick", s.tryOut(11, 15, Ground.int4(-9)), 24);
        expect.same("just above it", s.tryOut(11, 15, Ground.int4(-7)), 0);
        expect.same("time", s.box.entry(0, 0), 8);
        s.order(11, 15, Ground.int4(92));
        s.tick();
        expect.same("no entry is left at 8", s.box.value(20), 0);
        s.order(11, 4, entry(100, test(1)));
        s.order(11, 4, entry(200, test(2)));
        s.tick();
        expect.same("no int", s.tryOut(11, 15, Ground.int4(Integer.MAX_VALUE - 199)), 24);
        expect.same("nothing was done", s.box.entry(0, 0), 100);
        expect.same("the largest int", s.tryOut(11, 15, Ground.int4(Integer.MAX_VALUE - 200)), 0);
        expect.same("time", s.box.entry(1, 0), Integer.MAX_VALUE);
        expect.same("far below", s.tryOut(11, 15, Ground.int4(Integer.MIN_VALUE)), 24);
    }

    private static void shiftedWhileDue() {
        Station s = new Station();
        s.order(11, 1);
        s.order(11, 4, entry(2, Ground.command(1, 8, 11, 15, Ground.int4(1))));
        s.order(11, 4, entry(2, test(2)));
        s.order(11, 4, entry(2, test(3)));
        s.tick();
        s.tick();
        expect.text("the others are later", numbers(s), "1 ");
        expect.same("by one", s.box.entry(0, 0), 3);
        s.tick();
        expect.text("and come then", numbers(s), "2 3 ");
    }

    private static void toldInOrder() {
        Station s = new Station();
        expect.same("none", s.tryOut(11, 17), 0);
        expect.text("told", s.told(), "11 13");
        expect.bytes("none", s.reports.get(0).data(), 0);
        s.order(11, 4, entry(0x01020304, test(0x2345)));
        s.order(11, 4, entry(100, test(3)));
        s.tick();
        expect.same("two", s.tryOut(11, 17), 0);
        expect.bytes("two", s.reports.get(0).data(), 2, 0, 0, 0, 100, 0, 3, 1, 2, 3, 4, 0x23, 0x45);
        for (int i = 0; i < 40; i++) {
            s.order(11, 4, entry(300 - i, test(i)));
            s.tick();
        }
        expect.same("many", s.tryOut(11, 17), 0);
        int[] d = s.reports.get(0).data();
        expect.same("32 at most", d.length, 1 + 32 * 6);
        expect.same("32", d[0], 32);
        expect.same("the last of them", d[1 + 31 * 6 + 3], 300 - 39 + 30 & 255);
        expect.same("its number", d[1 + 31 * 6 + 5], 39 - 30);
    }

    private static void beforeTheQueue() {
        Station s = new Station();
        s.order(11, 1);
        s.order(11, 4, entry(2, test(1)));
        s.tick();
        s.sendPacket(test(2));
        s.tick();
        expect.text("the entry first", numbers(s), "1 2 ");
    }
}
