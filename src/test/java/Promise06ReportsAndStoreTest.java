import java.util.ArrayList;
import java.util.List;

/** Promise 6, reports, service 15 and step 8 of a tick. */
public final class Promise06ReportsAndStoreTest {
    private static final Expect expect = new Expect();

    public static void main(String[] args) {
        everyByteOfAReport();
        reportsAreCounted();
        countGoesRound();
        fullChannelLosesReports();
        servicesAreStoredOrNot();
        lostReportsAreStored();
        oldestGiveWay();
        tooLongIsNotStored();
        droppedUpToATime();
        retrievedByTime();
        retrievalWaitsForRoom();
        whatGoesBeforeIsMissed();
        whatCameSinceIsRetrieved();
        retrievalIsStopped();
        expect.end();
    }

    private static int[] span(int from, int to) {
        return Ground.join(Ground.int4(from), Ground.int4(to));
    }

    private static void everyByteOfAReport() {
        Station s = new Station();
        s.tick();
        s.tick();
        s.order(17, 1);
        s.order(6, 2, 0, 9, 2, 77, 78);
        s.order(6, 5, 0, 9, 2);
        s.order(17, 1);
        s.tick();
        expect.text("told", s.told(), "17 2, 6 6, 17 2");
        expect.bytes("the first", s.reports.get(0).bytes(), Ground.withCheck(8, 42, 0xC0, 0, 0, 12, 32, 17, 2, 0, 0, 0, 0,
            0, 0, 0, 3));
        expect.bytes("the second", s.reports.get(1).bytes(), Ground.withCheck(8, 42, 0xC0, 1, 0, 17, 32, 6, 6, 0, 0, 0, 0,
            0, 0, 0, 3, 0, 9, 2, 77, 78));
        expect.bytes("the third", s.reports.get(2).bytes(), Ground.withCheck(8, 42, 0xC0, 2, 0, 12, 32, 17, 2, 0, 1, 0, 0,
            0, 0, 0, 3));
    }

    private static void reportsAreCounted() {
        Station s = new Station();
        for (int id = 0; id < 8; id++) {
            s.order(3, 1, id, 1, 1, 17);
        }
        s.tick();
        for (int id = 0; id < 8; id++) {
            s.order(3, 5, id);
        }
        for (int t = 0; t < 40; t++) {
            s.tick();
            for (int i = 0; i < 8; i++) {
                expect.same("in all", s.reports.get(i).number(), 8 * t + i);
                expect.same("of 3 25", s.reports.get(i).series(), 8 * t + i);
                expect.same("clock", s.reports.get(i).clock(), t + 2);
            }
        }
    }

    private static void countGoesRound() {
        // Event 2 raises itself, so that each tick works 64 of them, with four reports each.
        Station s = new Station();
        int[] raise = Ground.join(Ground.row(3, 2), Ground.int4(0));
        s.order(19, 1, Ground.join(Ground.row(2), Ground.command(1, 11, 8, 1, raise)));
        s.order(19, 4, 2);
        for (int t = 0; t < 70; t++) {
            s.order(8, 1, raise);
            s.tick();
        }
        for (int t = 0; t < 6; t++) {
            s.tick();
        }
        expect.yes("some were lost", s.box.value(27) > 10000);
        s.order(17, 1);
        s.order(8, 1, Ground.join(Ground.row(3, 3), Ground.int4(0)));
        s.tick();
        expect.text("told", s.told(), "17 2, 5 1");
        expect.same("lost ones count", s.reports.get(0).number(), 70 * 256 % 16384);
        expect.same("of 17 2", s.reports.get(0).series(), 0);
        expect.same("of 5 1", s.reports.get(1).series(), 70 * 64);
    }

    private static void fullChannelLosesReports() {
        Station s = new Station(1, 64, 1, 1, 64);
        for (int i = 0; i < 8; i++) {
            s.order(6, 5, 0, 0, 255);
        }
        s.tick();
        expect.same("waiting", s.box.value(29), 8 * 277 - 52);
        for (int i = 0; i < 6; i++) {
            s.order(6, 5, 0, 0, 255);
        }
        s.order(6, 5, 0, 0, 249);
        s.order(6, 5, 0, 0, 248);
        s.tick();
        expect.same("one was a byte too long", s.box.value(27), 1);
        expect.same("then it was full", s.box.value(29), 4096 - 52);
        s.order(17, 1);
        s.order(17, 1);
        s.order(17, 1);
        s.tick();
        expect.same("the third has no room", s.box.value(27), 2);
        expect.same("waiting", s.box.value(29), 4096 - 52 + 38 - 52);
    }

    private static void servicesAreStoredOrNot() {
        Station s = new Station();
        s.order(17, 1);
        s.tick();
        expect.same("none are at first", s.box.value(28), 0);
        expect.same("17", s.tryOut(15, 1, 17), 0);
        s.order(17, 1);
        s.sendPacket(Ground.command(1, 15, 17, 1));
        s.tick();
        expect.same("two of 17", s.box.value(28), 2);
        expect.same("bytes", s.box.state(3), 38);
        expect.same("once more", s.tryOut(15, 1, 17), 0);
        expect.same("1", s.tryOut(15, 1, 1), 0);
        s.sendPacket(Ground.command(1, 15, 17, 1));
        s.tick();
        expect.same("four more", s.box.value(28), 6);
        expect.same("bytes", s.box.state(3), 38 + 19 + 3 * 23);
        expect.same("not 17", s.tryOut(15, 2, 17), 0);
        expect.same("not 17 once more", s.tryOut(15, 2, 17), 0);
        s.sendPacket(Ground.command(1, 15, 17, 1));
        s.tick();
        expect.same("three more", s.box.value(28), 9);
        expect.same("the first service", s.tryOut(15, 1, 0), 0);
        expect.same("the last service", s.tryOut(15, 1, 31), 0);
        expect.same("no such, and that is stored", s.tryOut(15, 1, 32), 32);
        expect.same("no such", s.tryOut(15, 2, 255), 32);
        expect.same("1 4 twice", s.box.value(28), 11);
        Station t = new Station();
        t.sendPacket(Ground.command(1, 15, 15, 1, 1));
        t.tick();
        expect.same("1 7 of the command itself", t.box.value(28), 1);
    }

    private static void lostReportsAreStored() {
        Station s = new Station(1, 64, 1, 1, 16384);
        s.order(15, 1, 6);
        s.tick();
        for (int t = 0; t < 4; t++) {
            for (int i = 0; i < 8; i++) {
                s.order(6, 5, 0, 0, 255);
            }
            s.tick();
        }
        expect.same("all are stored", s.box.value(28), 32);
        expect.yes("some were lost", s.box.value(27) > 10);
    }

    private static void oldestGiveWay() {
        Station s = new Station(1, 256, 4, 1, 64);
        s.order(15, 1, 17);
        s.order(15, 1, 6);
        s.tick();
        for (int t = 2; t <= 4; t++) {
            s.order(17, 1);
            s.tick();
        }
        expect.same("three tests", s.box.state(3), 57);
        s.order(17, 1);
        s.tick();
        expect.same("three tests still", s.box.value(28), 3);
        s.order(6, 5, 0, 0, 18);
        s.tick();
        expect.same("a test and a dump", s.box.value(28), 2);
        expect.same("bytes", s.box.state(3), 19 + 40);
        s.order(15, 9, span(0, 100));
        s.tick();
        expect.text("back", s.replayed(), "17 2, 6 6");
        expect.same("the youngest test", s.replay.get(0).clock(), 5);
        s.order(6, 5, 0, 0, 23);
        s.tick();
        expect.same("a dump, for 45 and 40 are too many", s.box.value(28), 1);
        expect.same("bytes", s.box.state(3), 45);
    }

    private static void tooLongIsNotStored() {
        Station s = new Station(1, 256, 4, 1, 64);
        s.order(15, 1, 17);
        s.order(15, 1, 6);
        s.order(17, 1);
        s.order(6, 5, 0, 0, 43);
        s.tick();
        expect.same("65 bytes", s.box.value(28), 1);
        expect.same("the test stays", s.box.state(3), 19);
        s.order(6, 5, 0, 0, 42);
        s.tick();
        expect.same("64 bytes", s.box.value(28), 1);
        expect.same("alone", s.box.state(3), 64);
    }

    private static Station withTestsAtEachTick(int ticks) {
        Station s = new Station();
        s.order(15, 1, 17);
        for (int t = 1; t <= ticks; t++) {
            s.order(17, 1);
            s.order(17, 1);
            s.tick();
        }
        return s;
    }

    private static void droppedUpToATime() {
        Station s = withTestsAtEachTick(6);
        expect.same("twelve", s.box.value(28), 12);
        expect.same("none", s.tryOut(15, 11, Ground.int4(0)), 0);
        expect.same("twelve", s.box.value(28), 12);
        expect.same("below 0", s.tryOut(15, 11, Ground.int4(-5)), 0);
        expect.same("twelve", s.box.value(28), 12);
        expect.same("up to 4", s.tryOut(15, 11, Ground.int4(4)), 0);
        expect.same("four", s.box.value(28), 4);
        expect.same("bytes", s.box.state(3), 4 * 19);
        s.order(15, 9, span(0, 100));
        s.tick();
        expect.same("the oldest that is left", s.replay.get(0).clock(), 5);
        expect.same("all", s.tryOut(15, 11, Ground.int4(Integer.MAX_VALUE)), 0);
        expect.same("none", s.box.value(28), 0);
        expect.same("bytes", s.box.state(3), 0);
        expect.same("of none", s.tryOut(15, 11, Ground.int4(9)), 0);
    }

    private static String clocks(List<Station.Report> some) {
        StringBuilder text = new StringBuilder();
        for (Station.Report r : some) {
            text.append(r.clock()).append(' ');
        }
        return text.toString();
    }

    private static void retrievedByTime() {
        Station s = withTestsAtEachTick(6);
        s.order(15, 9, span(3, 5));
        s.tick();
        expect.text("both ends count", clocks(s.replay), "3 3 4 4 5 5 ");
        expect.bytes("as it was", s.replay.get(0).bytes(), Ground.withCheck(8, 42, 0xC0, 4, 0, 12, 32, 17, 2, 0, 4, 0, 0,
            0, 0, 0, 3));
        expect.same("it was over in the same tick", s.box.state(2), 0);
        expect.same("they stay", s.box.value(28), 12);
        s.order(15, 9, span(6, 5));
        s.tick();
        expect.text("no time", clocks(s.replay), "");
        expect.same("over", s.box.state(2), 0);
        s.order(15, 9, span(Integer.MIN_VALUE, Integer.MAX_VALUE));
        s.tick();
        expect.text("all times", clocks(s.replay), "1 1 2 2 3 3 4 4 5 5 6 6 ");
        s.order(15, 9, span(4, 4));
        s.order(17, 1);
        s.tick();
        expect.text("channel 0 first", s.told(), "17 2");
        expect.text("then 1", clocks(s.replay), "4 4 ");
        Station slow = new Station(1, 64, 1, 1, 1000);
        slow.order(15, 1, 17);
        slow.order(17, 1);
        slow.tick();
        slow.order(15, 9, span(0, 9));
        slow.order(17, 1);
        slow.tick();
        expect.text("only channel 0", slow.told() + "/" + slow.replayed(), "17 2/");
        expect.same("channel 1 waits", slow.box.state(0), 38);
        slow.tick();
        expect.text("now 1", slow.told() + "/" + slow.replayed(), "/17 2, 17 2");
        expect.same("channel 1 is empty", slow.box.state(0), 0);
    }

    /** A store with 32 reports of 277 bytes at the ticks 2 to 5, more than channel 1 can hold. */
    private static Station withMuch() {
        Station s = new Station(1, 256, 1, 1, 16384);
        s.order(15, 1, 6);
        s.tick();
        for (int t = 2; t <= 5; t++) {
            for (int i = 0; i < 8; i++) {
                s.order(6, 5, 0, i, 255);
            }
            s.tick();
        }
        for (int t = 0; s.box.value(29) > 0 && t < 1000; t++) {
            s.tick();
        }
        return s;
    }

    /** Of the reports that came back with the latest tick, and with those till nothing waits. */
    private static String seriesUntilSilent(Station s) {
        List<String> all = new ArrayList<>();
        addSeries(s, all);
        for (int t = 0; t < 1000 && s.box.state(0) > 0; t++) {
            s.tick();
            addSeries(s, all);
        }
        return String.join(" ", all);
    }

    private static void addSeries(Station s, List<String> all) {
        for (Station.Report r : s.replay) {
            all.add(Integer.toString(r.series()));
        }
    }

    private static String series(int from, int to) {
        List<String> all = new ArrayList<>();
        for (int i = from; i <= to; i++) {
            all.add(Integer.toString(i));
        }
        return String.join(" ", all);
    }

    private static void retrievalWaitsForRoom() {
        Station s = withMuch();
        s.order(15, 9, span(2, 5));
        s.tick();
        expect.same("14 go into channel 1", s.box.state(0), 14 * 277 - 244);
        expect.same("under way", s.box.state(2), 1);
        expect.same("one is under way", s.tryOut(15, 9, span(0, 1)), 28);
        expect.text("each once and in order", seriesUntilSilent(s), series(0, 31));
        expect.same("over", s.box.state(2), 0);
        expect.same("all stay", s.box.value(28), 32);
    }

    private static void whatGoesBeforeIsMissed() {
        Station s = withMuch();
        s.order(15, 9, span(2, 5));
        s.tick();
        s.order(15, 11, Ground.int4(3));
        s.tick();
        expect.same("16 are gone", s.box.value(28), 16);
        expect.text("two that were due are missed", seriesUntilSilent(s), series(0, 13) + " " + series(16, 31));
        Station partly = withMuch();
        partly.order(15, 9, span(2, 5));
        partly.tick();
        partly.order(15, 11, Ground.int4(2));
        partly.tick();
        expect.text("gone behind it: none is missed", seriesUntilSilent(partly), series(0, 31));
        Station all = withMuch();
        all.order(15, 9, span(2, 5));
        all.tick();
        all.order(15, 11, Ground.int4(5));
        all.tick();
        expect.same("none is there any more", all.box.state(2), 0);
        expect.text("those that came before", seriesUntilSilent(all), series(0, 13));
    }

    private static void whatCameSinceIsRetrieved() {
        Station s = withMuch();
        s.order(15, 9, span(2, 1000000));
        s.tick();
        s.order(6, 5, 0, 0, 255);
        s.order(6, 5, 0, 0, 255);
        s.tick();
        expect.text("these, too", seriesUntilSilent(s), series(0, 33));
        Station old = withMuch();
        old.order(15, 9, span(4, 5));
        old.order(6, 5, 0, 0, 255);
        old.tick();
        expect.text("not those of other times", seriesUntilSilent(old), series(16, 31));
    }

    private static void retrievalIsStopped() {
        Station s = withMuch();
        expect.same("none is under way", s.tryOut(15, 12), 28);
        s.order(15, 9, span(2, 5));
        s.tick();
        expect.same("stopped", s.tryOut(15, 12), 0);
        expect.same("over", s.box.state(2), 0);
        expect.text("what waited in the channel comes", seriesUntilSilent(s), series(0, 13));
        expect.same("none is under way any more", s.tryOut(15, 12), 28);
        s.order(15, 9, span(2, 5));
        s.tick();
        expect.text("from the oldest on again", seriesUntilSilent(s), series(0, 31));
        s.order(15, 9, span(2, 5));
        s.order(15, 12);
        s.tick();
        expect.same("stopped before it brought one", s.box.state(0), 0);
    }
}
