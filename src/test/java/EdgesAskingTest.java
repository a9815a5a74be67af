/** Edges of promises 8 (value), 9 (word) and 13 (state), and of the parameters. */
public final class EdgesAskingTest extends Edges {
    public static void main(String[] args) {
        noSuchParameter();
        gateParameters();
        timetableAndQueueFull();
        acceptedWithoutControl();
        lostReports();
        lostEvents();
        brokenLimits();
        noSuchState();
        channelOne();
        alarmTick();
        retrievalState();
        eventsNotWorked();
        receiverCollects();
        askingChangesNothing();
        expect.end();
    }

    private static void noSuchParameter() {
        sentence("The value of parameter k; NoSuchElementException if it is not 0 .. 31.");
        Box box = box();
        box.sense(0, 5);
        same("the first", box.value(0), 5);
        same("the last", box.value(31), 0);
        for (int k : new int[] {-1, -2, 32, 33, 255, 256, LEAST, LARGEST}) {
            nothingThere("parameter " + k, () -> box.value(k));
        }
    }

    private static void gateParameters() {
        sentence("18 STATE and 19 NEXT of the gate");
        Box box = box();
        for (int status = 1; status <= 3; status++) {
            same("STATE " + status, box.value(18), status);
            if (status == 1) {
                for (int i = 0; i < 9; i++) {
                    send(box, TURN, i, 1);
                }
            } else {
                send(box, TURN, 100, 1);
            }
        }
        same("NEXT", box.value(19), 8);
        Box last = box();
        send(last, CONTROL, 0, 130, 0, 255);
        same("NEXT at its largest", last.value(19), 255);
    }

    private static void timetableAndQueueFull() {
        sentence("20 entries of the timetable, 21 packets in the queue");
        Station s = new Station(2, 256, 4, 1, 64);
        for (int i = 1; i <= 9; i++) {
            s.sendPacket(command(i, 11, 4, entry(100, command(i, 17, 1))));
            same("in the queue", s.box.value(21), Math.min(i, 8));
            same("in the timetable", s.box.value(20), 0);
        }
        s.tick();
        same("in the queue", s.box.value(21), 0);
        same("in the timetable", s.box.value(20), 2);
    }

    private static void acceptedWithoutControl() {
        sentence("24 ACCEPTED (without UNLOCK and SET)");
        Box box = box();
        send(box, CONTROL, 0, 0);
        send(box, CONTROL, 0, 130, 0, 3);
        same("none", box.value(24), 0);
        send(box, TURN, 3, 1);
        send(box, BESIDE, 3, 1);
        same("both ways", box.value(24), 2);
        send(box, TURN, 3, 1);
        same("one that came before", box.value(24), 2);
        same("is not REFUSED", box.value(23), 0);
    }

    private static void lostReports() {
        sentence("27 REPORTS lost (in channel 0)");
        Station s = new Station(1, 64, 1, 1, 16384);
        s.order(15, 1, 6);
        for (int t = 0; t < 2; t++) {
            for (int i = 0; i < 7; i++) {
                s.order(6, 5, 0, 0, 255);
            }
            s.box.tick();
        }
        same("none", s.box.value(27), 0);
        s.order(6, 5, 0, 0, 255);
        s.box.tick();
        same("none", s.box.value(27), 0);
        yes("there is no room for the next", s.box.value(29) + 277 > 4096);
        s.order(6, 5, 0, 0, 255);
        s.box.tick();
        same("one is lost", s.box.value(27), 1);
        s.order(15, 9, span(0, 100));
        s.box.tick();
        same("what has no room in channel 1 is not", s.box.value(27), 1);
        same("it waits", s.box.state(2), 1);
    }

    private static void lostEvents() {
        sentence("30 EVENTS lost");
        Station s = new Station();
        s.order(19, 1, action(2, command(1, 8, 1, raise(2, 0))));
        s.order(19, 4, 2);
        for (int i = 1; i <= 3; i++) {
            s.order(8, 1, raise(2, 0));
            s.box.tick();
            same("one a tick", s.box.value(30), i);
        }
        s.order(5, 6, 9);
        s.order(8, 1, raise(9, 0));
        s.box.tick();
        same("one that is not told is not lost", s.box.value(30), 3);
    }

    private static void brokenLimits() {
        sentence("31 limits that were BROKEN");
        Station s = new Station();
        for (int id = 1; id <= 3; id++) {
            s.order(12, 5, limit(id, 0, id, 5, 6, 20, 0));
            s.order(12, 1, id);
        }
        for (int t = 1; t <= 4; t++) {
            s.box.tick();
            same("at " + t, s.box.value(31), Math.min(t, 3));
        }
        s.order(12, 2, 1);
        s.order(12, 6, 1);
        s.box.tick();
        same("one that is gone was BROKEN", s.box.value(31), 3);
    }

    private static void noSuchState() {
        sentence("NONE for another what.");
        Box box = box();
        for (int what : new int[] {-1, -2, 6, 7, 255, LEAST, LARGEST}) {
            same("what " + what, box.state(what), NONE);
        }
        for (int what : new int[] {0, 2, 3, 4, 5}) {
            same("what " + what, box.state(what), 0);
        }
    }

    private static void channelOne() {
        sentence("What 0: bytes that wait in channel 1");
        Station s = new Station(1, 64, 1, 1, 64);
        s.order(15, 1, 17);
        s.order(17, 1);
        s.box.tick();
        same("none", s.box.state(0), 0);
        s.order(17, 1);
        s.order(15, 9, span(1, 1));
        s.box.tick();
        same("one report", s.box.state(0), 19);
        same("none in channel 0", s.box.value(29), 0);
        s.box.tick();
        same("none", s.box.state(0), 0);
    }

    private static void alarmTick() {
        sentence("1: the ALARM's tick, NONE without one");
        Station s = new Station(1, 64, 1, 3, 64);
        same("none at first", s.box.state(1), NONE);
        s.order(12, 5, limit(1, 0, 1, 5, 6, 20, 1));
        s.order(12, 1, 1);
        s.box.tick();
        same("one", s.box.state(1), 3);
        s.box.tick();
        same("one", s.box.state(1), 3);
        s.box.tick();
        same("none behind it", s.box.state(1), NONE);
    }

    private static void retrievalState() {
        sentence("2: 1 while a retrieval is under way, else 0");
        Station s = new Station(1, 64, 1, 1, 16384);
        s.order(15, 1, 6);
        for (int t = 0; t < 15; t++) {
            s.order(6, 5, 0, 0, 255);
            s.box.tick();
        }
        same("0", s.box.state(2), 0);
        s.order(15, 9, span(0, 100));
        same("not before it is handled", s.box.state(2), 0);
        s.box.tick();
        same("1", s.box.state(2), 1);
        s.order(15, 12);
        same("1 till the command is handled", s.box.state(2), 1);
        s.box.tick();
        same("0", s.box.state(2), 0);
    }

    private static void eventsNotWorked() {
        sentence("4: events that are raised and not worked");
        Station s = new Station(1, 64, 1, 1, 64);
        s.order(8, 1, raise(3, 0));
        s.box.tick();
        same("worked with its tick", s.box.state(4), 0);
        s.order(12, 5, limit(1, 0, 1, 5, 6, 20, 1));
        s.order(12, 1, 1);
        s.box.tick();
        same("the MODE's is not", s.box.state(4), 1);
        s.box.tick();
        same("but with the next", s.box.state(4), 0);
    }

    private static void receiverCollects() {
        sentence("5: 1 while the receiver collects, else 0");
        Box box = box();
        same("0", box.state(5), 0);
        Ground.up(box, 0xEB);
        same("0", box.state(5), 0);
        Ground.up(box, 0x90);
        same("1", box.state(5), 1);
        box.tick();
        same("1 over a tick", box.state(5), 1);
        Ground.up(box, Ground.WRONG_BLOCK);
        same("0", box.state(5), 0);
    }

    private static void askingChangesNothing() {
        sentence("Nothing is promised beyond the answers and state changes described above");
        Station s = new Station(2, 64, 2, 2, 200);
        s.order(15, 1, 17);
        s.order(17, 1);
        s.order(11, 4, entry(50, command(1, 17, 1)));
        s.order(12, 5, limit(1, 0, 9, 5, 6, 20, 1));
        s.order(12, 1, 1);
        s.tick();
        String once = everyAnswer(s.box);
        text("asked twice", everyAnswer(s.box), once);
        s.tick();
        yes("a tick changes it", !everyAnswer(s.box).equals(once));
    }

    private static String everyAnswer(Box box) {
        StringBuilder text = new StringBuilder();
        text.append(box.word()).append(' ');
        for (int k = 0; k < 32; k++) {
            text.append(box.value(k)).append(' ');
        }
        for (int what = 0; what < 6; what++) {
            text.append(box.state(what)).append(' ');
        }
        for (int what = 0; what < 3; what++) {
            text.append(box.entry(0, what)).append(' ');
        }
        for (int what = 0; what < 2; what++) {
            text.append(box.limit(1, what)).append(' ');
        }
        for (int k = 0; k < 64; k++) {
            text.append(box.memory(k)).append(' ').append(box.down(0, k)).append(' ').append(box.down(1, k)).append(' ');
        }
        return text.toString();
    }
}
