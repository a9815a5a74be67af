import java.util.ArrayList;
import java.util.List;

/** Edges of service 15 and of step 8 of a tick. */
public final class EdgesStoreTest extends Edges {
    public static void main(String[] args) {
        retrievalUnderWay();
        retrievalOfAnEmptyStore();
        timesFromAndTo();
        noTimesBetween();
        goneUpToATime();
        goneOfNone();
        noRetrievalToEnd();
        endedRetrieval();
        underWayTillNoneIsLeft();
        justRoomInTheChannel();
        emptyBytesTakeRoom();
        noRoomForTheNext();
        onlyOthersAreLeft();
        theyStay();
        thoseThatCameSince();
        missedOnes();
        missedByAFullStore();
        goneBehindIt();
        allAreGone();
        eachOnce();
        bytesOfTheStore();
        expect.end();
    }

    private static String clocks(List<Station.Report> some) {
        StringBuilder text = new StringBuilder();
        for (Station.Report r : some) {
            text.append(r.clock()).append(' ');
        }
        return text.toString();
    }

    /** With the report of a test in the store for each tick. */
    private static Station withTests(int ticks) {
        Station s = new Station();
        s.order(15, 1, 17);
        for (int t = 1; t <= ticks; t++) {
            s.order(17, 1);
            s.tick();
        }
        return s;
    }

    /** With 32 reports of 277 bytes in the store, eight for each of the ticks 2 to 5, and channel 0 empty. */
    private static Station withMuch(int store) {
        Station s = new Station(1, 256, 1, 1, store);
        s.order(15, 1, 6);
        s.tick();
        for (int t = 2; t <= 5; t++) {
            for (int i = 0; i < 8; i++) {
                s.order(6, 5, 0, 0, 255);
            }
            s.tick();
        }
        for (int t = 0; s.box.value(29) > 0 && t < 100; t++) {
            s.tick();
        }
        return s;
    }

    /** The counts of the reports that came back with the latest tick and till nothing waits. */
    private static String seriesTillSilent(Station s) {
        List<String> all = new ArrayList<>();
        s.replay.forEach(r -> all.add(Integer.toString(r.series())));
        for (int t = 0; t < 100 && s.box.state(0) > 0; t++) {
            s.tick();
            s.replay.forEach(r -> all.add(Integer.toString(r.series())));
        }
        return String.join(" ", all);
    }

    private static String series(int from, int to) {
        List<String> all = new ArrayList<>();
        for (int i = from; i <= to; i++) {
            all.add(Integer.toString(i));
        }
        return String.join(" ", all);
    }

    private static void retrievalUnderWay() {
        sentence("15 9: from (4), to (4): a RETRIEVAL begins, of those with these times: 28 (one is under way).");
        Station s = withTests(3);
        s.order(15, 9, span(1, 1));
        s.order(15, 9, span(2, 3));
        s.tick();
        text("the second fails in the same tick", s.told(), "1 4");
        bytes("by 28", s.reports.get(0).data(), 0x18, 42, 0xC0, 6, 0, 28);
        text("the first goes on", clocks(s.replay), "1 ");
        same("none is under way in the next", s.tryOut(15, 9, span(2, 3)), 0);
        text("so another may be", clocks(s.replay), "2 3 ");
        Station much = withMuch(16384);
        much.tryOut(15, 9, span(2, 5));
        same("one is under way", much.box.state(2), 1);
        same("so another may not be", much.tryOut(15, 9, span(2, 5)), 28);
    }

    private static void retrievalOfAnEmptyStore() {
        sentence("if there is none any more, it is under way no more (in the same tick).");
        Station s = new Station();
        same("it begins", s.tryOut(15, 9, span(LEAST, LARGEST)), 0);
        same("and is over", s.box.state(2), 0);
        same("nothing came", s.box.state(0), 0);
        s.order(15, 9, span(0, 0));
        s.order(15, 12);
        s.tick();
        text("it was under way till then", s.told(), "");
    }

    private static void timesFromAndTo() {
        sentence("packets of the store whose times are FROM .. TO");
        int[][] fromAndTo = {{3, 3}, {3, 5}, {1, 6}, {0, 1}, {6, 7}, {LEAST, 2}, {5, LARGEST}, {LEAST, LARGEST}, {-9, 0},
            {7, 99}, {LEAST, LEAST}, {LARGEST, LARGEST}};
        for (int[] pair : fromAndTo) {
            Station s = withTests(6);
            s.tryOut(15, 9, span(pair[0], pair[1]));
            StringBuilder due = new StringBuilder();
            for (int t = Math.max(1, pair[0]); t <= Math.min(6, pair[1]); t++) {
                due.append(t).append(' ');
            }
            text(pair[0] + " .. " + pair[1], clocks(s.replay), due.toString());
            same("it is over", s.box.state(2), 0);
        }
    }

    private static void noTimesBetween() {
        sentence("packets of the store whose times are FROM .. TO");
        int[][] fromAndTo = {{3, 2}, {6, 1}, {LARGEST, LEAST}, {0, -1}};
        for (int[] pair : fromAndTo) {
            Station s = withTests(6);
            same("it begins", s.tryOut(15, 9, span(pair[0], pair[1])), 0);
            text(pair[0] + " .. " + pair[1], clocks(s.replay), "");
            same("it is over", s.box.state(2), 0);
        }
    }

    private static void goneUpToATime() {
        sentence("15 11: time (4): packets of the store up to that time, and of it, from the oldest on, are gone");
        for (int time : new int[] {LEAST, -1, 0, 1, 2, 5, 6, 7, LARGEST}) {
            Station s = withTests(6);
            int gone = Math.max(0, Math.min(6, time));
            same("up to " + time, s.tryOut(15, 11, int4(time)), 0);
            same("packets that are left", s.box.value(28), 6 - gone);
            same("bytes that are left", s.box.state(3), 19 * (6 - gone));
            s.tryOut(15, 9, span(0, 100));
            same("those that come back", s.replay.size(), 6 - gone);
            same("the oldest of them", gone < 6 ? s.replay.get(0).clock() : 7, gone + 1);
        }
    }

    private static void goneOfNone() {
        sentence("are gone (perhaps none)");
        Station s = new Station();
        for (int time : new int[] {LEAST, 0, LARGEST}) {
            same("of none up to " + time, s.tryOut(15, 11, int4(time)), 0);
            same("packets", s.box.value(28), 0);
            same("bytes", s.box.state(3), 0);
        }
    }

    private static void noRetrievalToEnd() {
        sentence("15 12: the retrieval ends: 28 (none is under way).");
        Station s = withTests(3);
        same("none", s.tryOut(15, 12), 28);
        s.tryOut(15, 9, span(0, 9));
        same("it is over by itself", s.tryOut(15, 12), 28);
    }

    private static void endedRetrieval() {
        sentence("15 12: the retrieval ends: 28 (none is under way).");
        Station s = withMuch(16384);
        s.tryOut(15, 9, span(2, 5));
        same("it is under way", s.box.state(2), 1);
        same("it ends", s.tryOut(15, 12), 0);
        same("it is over", s.box.state(2), 0);
        text("what waited comes", seriesTillSilent(s), series(0, 13));
        same("once", s.tryOut(15, 12), 28);
        s.order(15, 9, span(2, 5));
        s.order(15, 12);
        s.order(15, 9, span(4, 5));
        s.tick();
        text("another begins with the oldest again", seriesTillSilent(s), series(16, 31));
    }

    private static void underWayTillNoneIsLeft() {
        sentence("if there is none any more, it is under way no more (in the same tick).");
        Station s = withMuch(16384);
        s.tryOut(15, 9, span(2, 5));
        for (int n = 1; n < 36; n++) {
            int stillToCome = 32 * 277 - 244 * n - s.box.state(0);
            same("14 have room at most", stillToCome % 277, 0);
            same("under way behind " + n + " frames", s.box.state(2), stillToCome > 0 ? 1 : 0);
            yes("what has room is there", stillToCome == 0 || s.box.state(0) + 244 > 4096 - 277);
            s.tick();
        }
        same("all came", s.box.state(2), 0);
    }

    /** With fourteen reports of 277 bytes and one of this length in the store, and channel 0 empty. */
    private static Station withFourteenAnd(int length) {
        Station s = new Station(1, 256, 1, 1, 16384);
        s.order(15, 1, 6);
        for (int i = 0; i < 14; i++) {
            s.order(6, 5, 0, 0, 255);
            if (i % 7 == 6) {
                s.tick();
            }
        }
        s.order(6, 5, 0, 0, length - 22);
        for (int t = 0; t < 30; t++) {
            s.tick();
        }
        same("channel 0 is empty", s.box.value(29), 0);
        return s;
    }

    private static void justRoomInTheChannel() {
        sentence("as long as that has room for the next one");
        int room = 4096 - 14 * 277;
        for (int over = -1; over <= 1; over++) {
            Station s = withFourteenAnd(room + over);
            s.tryOut(15, 9, span(0, 100));
            same("waiting, too long by " + over, s.box.state(0), (over > 0 ? 14 * 277 : 4096 + over) - 244);
            same("under way, too long by " + over, s.box.state(2), over > 0 ? 1 : 0);
            s.tick();
            same("over in the next tick", s.box.state(2), 0);
            text("all come", seriesTillSilent(s), series(0, 14));
        }
    }

    private static void emptyBytesTakeRoom() {
        sentence("Channels 0 and 1 are rows of at most 4,096 bytes that wait.");
        for (int over = 0; over <= 1; over++) {
            for (int left = 1; left <= 7; left++) {
                Station s = new Station(1, 256, 1, 1, 16384);
                s.order(15, 1, 6);
                s.order(6, 5, 0, 0, 244 - left - 22);
                s.box.tick();
                for (int i = 0; i < 14; i++) {
                    s.order(6, 5, 0, 0, 255);
                    if (i % 7 == 6) {
                        s.box.tick();
                    }
                }
                s.order(6, 5, 0, 0, 4096 - 14 * 277 - (7 - left) - 22 + over);
                for (int t = 0; t < 30; t++) {
                    s.box.tick();
                }
                s.order(15, 9, span(1, 1));
                s.box.tick();
                same("of the EMPTY packet wait", s.box.state(0), 7 - left);
                s.order(15, 9, span(2, 9));
                s.box.tick();
                same("under way, too long by " + over + ", left " + left, s.box.state(2), over);
                same("waiting", s.box.state(0), (over == 0 ? 4096 : 14 * 277 + 7 - left) - 244);
            }
        }
    }

    private static void noRoomForTheNext() {
        sentence("one after the other, as long as that has room for the next one");
        // The fifteenth has no room: the sixteenth, which would have, does not come before it.
        Station s = withFourteenAnd(277);
        s.tryOut(6, 5, 0, 0, 1);
        s.tick();
        s.tryOut(15, 9, span(0, 100));
        same("fourteen", s.box.state(0), 14 * 277 - 244);
        text("in order", seriesTillSilent(s), series(0, 15));
    }

    private static void onlyOthersAreLeft() {
        sentence("if there is none any more, it is under way no more (in the same tick).");
        Station s = withFourteenAnd(277);
        s.tryOut(15, 9, span(1, 2));
        same("all fourteen of these times are there", s.box.state(0), 14 * 277 - 244);
        same("the fifteenth is of another time", s.box.state(2), 0);
    }

    private static void theyStay() {
        sentence("come to channel 1 (and stay in the store)");
        Station s = withTests(4);
        for (int i = 0; i < 3; i++) {
            s.tryOut(15, 9, span(0, 100));
            text("they come", clocks(s.replay), "1 2 3 4 ");
            same("they stay", s.box.value(28), 4);
            same("all their bytes", s.box.state(3), 4 * 19);
        }
    }

    private static void thoseThatCameSince() {
        sentence("(those that came since it began, too)");
        Station s = withMuch(16384);
        s.tryOut(15, 9, span(2, LARGEST));
        s.tryOut(6, 5, 0, 0, 255);
        text("one that came since", seriesTillSilent(s), series(0, 32));
        Station same = new Station();
        same.order(15, 1, 17);
        same.order(15, 1, 3);
        same.order(15, 9, span(0, 100));
        same.order(17, 1);
        same.order(3, 1, 1, 1, 1, 17);
        same.order(3, 5, 1);
        same.tick();
        text("those of the very tick, the form's too", same.replayed(), "17 2, 3 25");
    }

    private static void missedOnes() {
        sentence("(What goes from the store before, is missed.)");
        Station s = withMuch(16384);
        s.tryOut(15, 9, span(2, 5));
        s.tryOut(15, 11, int4(4));
        same("eight are left", s.box.value(28), 8);
        text("fourteen had come before that", seriesTillSilent(s), series(0, 13) + " " + series(24, 31));
    }

    private static void missedByAFullStore() {
        sentence("(What goes from the store before, is missed.)");
        // A store for 32 of them: each new one takes the place of the oldest.
        Station s = withMuch(32 * 277);
        same("the store is full", s.box.state(3), 32 * 277);
        s.tryOut(15, 9, span(2, LARGEST));
        for (int i = 0; i < 3; i++) {
            for (int j = 0; j < 6; j++) {
                s.order(6, 5, 0, 0, 255);
            }
            s.tick();
        }
        same("as many as before", s.box.value(28), 32);
        text("the fifteenth had room, three behind it are missed", seriesTillSilent(s),
            series(0, 14) + " " + series(18, 49));
    }

    private static void goneBehindIt() {
        sentence("(What goes from the store before, is missed.)");
        Station s = withMuch(16384);
        s.tryOut(15, 9, span(2, 5));
        s.tryOut(15, 11, int4(2));
        same("eight are gone that had come already", s.box.value(28), 24);
        text("none is missed", seriesTillSilent(s), series(0, 31));
    }

    private static void allAreGone() {
        sentence("if there is none any more, it is under way no more (in the same tick).");
        Station s = withMuch(16384);
        s.tryOut(15, 9, span(2, 5));
        s.tryOut(15, 11, int4(LARGEST));
        same("the store is empty", s.box.value(28), 0);
        same("it is over", s.box.state(2), 0);
        text("what waited comes", seriesTillSilent(s), series(0, 13));
    }

    private static void eachOnce() {
        sentence("from the oldest on, come to channel 1");
        Station s = withMuch(16384);
        s.tryOut(15, 9, span(2, 5));
        text("each once, in order", seriesTillSilent(s), series(0, 31));
        same("it is over", s.box.state(2), 0);
    }

    private static void bytesOfTheStore() {
        sentence("3: bytes in the store");
        Station s = new Station(1, 256, 4, 1, 100);
        s.order(15, 1, 6);
        s.tick();
        int[] lengths = {1, 78, 79, 20, 30, 1, 1, 1, 1, 60};
        int[] due = {23, 100, 100, 42, 94, 75, 98, 69, 92, 82};
        for (int i = 0; i < lengths.length; i++) {
            s.tryOut(6, 5, 0, 0, lengths[i]);
            same("bytes behind a dump of " + lengths[i] + ", the " + i + "th", s.box.state(3), due[i]);
        }
    }
}
