/** Edges of THE QUEUE and THE GATE. */
public final class EdgesGateTest extends Edges {
    private static final int LOCKED = 1 << 13;
    private static final int WAITS = 1 << 12;
    private static final int AGAIN = 1 << 11;
    private static final int ONE_BESIDE = 1 << 9;

    public static void main(String[] args) {
        atFirst();
        mostPackets();
        placesComeWithATick();
        inTurn();
        nextGoesRound();
        noPlaceInTurn();
        distancesWhenOpen();
        distancesWhenWaiting();
        distancesWhenLocked();
        distanceGoesRound();
        besideWithAPlace();
        besideWithoutAPlace();
        besideWhenLocked();
        unlockWhenOpen();
        unlockWhenWaiting();
        unlockWhenLocked();
        setWhenOpen();
        setWhenWaiting();
        setWhenLocked();
        besideGoesRound();
        controlNeedsNoPlace();
        everyBitOfTheWord();
        waitingEndsWithATick();
        waitingWhileTheQueueIsHandled();
        expect.end();
    }

    private static void same(String what, Box box, int status, int word) {
        same(what + ": STATE", box.value(18), status);
        same(what + ": the word", box.word(), WORD | word);
    }

    private static Box next(int v) {
        Box box = box();
        for (int i = 0; i < 4; i++) {
            send(box, CONTROL, 0, 130, 0, v);
        }
        same("NEXT " + v + ", BESIDE 0 again", box.word(), WORD | v);
        return box;
    }

    /** With eight packets in the queue, NEXT 8. */
    private static Box full() {
        Box box = box();
        for (int i = 0; i < 8; i++) {
            same("packet " + i, send(box, TURN, i, 1), 1);
        }
        return box;
    }

    private static Box waiting() {
        Box box = full();
        send(box, TURN, 8, 1);
        same("waiting", box, 2, WAITS | AGAIN | 8);
        return box;
    }

    /** NEXT 100. */
    private static Box locked() {
        Box box = next(100);
        send(box, TURN, 150, 1);
        same("locked", box, 3, LOCKED | 100);
        return box;
    }

    private static void atFirst() {
        sentence("STATE 1 open, 2 waiting, 3 locked; NEXT 0 .. 255 (0 at first), WAITS and AGAIN, off at first");
        same("at first", box(), 1, 0);
        same("NEXT", box().value(19), 0);
    }

    private static void mostPackets() {
        sentence("THE QUEUE has at most 8 packets.");
        Box box = box();
        for (int i = 1; i <= 12; i++) {
            same("packet " + i, send(box, BESIDE, 0, 1), i <= 8 ? 1 : 0);
            same("in the queue", box.value(21), Math.min(i, 8));
        }
    }

    private static void placesComeWithATick() {
        sentence("THE QUEUE has at most 8 packets.");
        Box box = full();
        for (int round = 0; round < 5; round++) {
            box.tick();
            same("all were taken out", box.value(21), 0);
            for (int i = 0; i < 9; i++) {
                same("place " + i, send(box, BESIDE, 0, 1), i < 8 ? 1 : 0);
            }
        }
    }

    private static void inTurn() {
        sentence("d 0, open: if the queue has a place, its body comes into the queue, ACCEPTED, NEXT is one more");
        Box box = box();
        send(box, TURN, 5, 1);
        same("AGAIN", box, 1, AGAIN);
        for (int i = 0; i < 8; i++) {
            same("number " + i, send(box, TURN, i, 1), 1);
            same("AGAIN is off", box, 1, i + 1);
            same("in the queue", box.value(21), i + 1);
            same("ACCEPTED", box.value(24), i + 1);
        }
    }

    private static void nextGoesRound() {
        sentence("NEXT is one more (modulo 256)");
        Box box = next(254);
        same("254", send(box, TURN, 254, 1), 1);
        same("NEXT", box.value(19), 255);
        same("255", send(box, TURN, 255, 1), 1);
        same("NEXT", box.value(19), 0);
        same("the word", box.word(), WORD);
        same("0", send(box, TURN, 0, 1), 1);
        same("NEXT", box.value(19), 1);
    }

    private static void noPlaceInTurn() {
        sentence("else AGAIN and WAITS are on, it is waiting.");
        Box box = full();
        same("full and open", box, 1, 8);
        same("no place", send(box, TURN, 8, 1), 0);
        same("waiting", box, 2, WAITS | AGAIN | 8);
        same("not REFUSED", box.value(23), 0);
        same("nor ACCEPTED", box.value(24), 8);
        same("in the queue", box.value(21), 8);
    }

    private static void distancesWhenOpen() {
        sentence("d 1 .. 9, open: AGAIN is on. d 10 .. 245, not locked: it is locked. All else: nothing.");
        for (int d = 1; d < 256; d++) {
            Box box = next(100);
            same("accepted, d " + d, send(box, TURN, (100 + d) % 256, 1), 0);
            boolean locks = d >= 10 && d <= 245;
            same("d " + d, box, locks ? 3 : 1, 100 | (locks ? LOCKED : d <= 9 ? AGAIN : 0));
            same("not REFUSED, d " + d, box.value(23), 0);
            same("in the queue, d " + d, box.value(21), 0);
        }
    }

    private static void distancesWhenWaiting() {
        sentence("d 10 .. 245, not locked: it is locked. All else: nothing.");
        for (int d : new int[] {0, 1, 9, 10, 11, 128, 244, 245, 246, 255}) {
            Box box = waiting();
            same("accepted, d " + d, send(box, TURN, (8 + d) % 256, 1), 0);
            boolean locks = d >= 10 && d <= 245;
            same("d " + d, box, locks ? 3 : 2, WAITS | AGAIN | 8 | (locks ? LOCKED : 0));
            same("not REFUSED, d " + d, box.value(23), 0);
        }
    }

    private static void distancesWhenLocked() {
        sentence("d 10 .. 245, not locked: it is locked. All else: nothing.");
        Box box = locked();
        for (int d : new int[] {0, 1, 9, 10, 11, 128, 244, 245, 246, 255}) {
            same("accepted, d " + d, send(box, TURN, (100 + d) % 256, 1), 0);
            same("d " + d, box, 3, LOCKED | 100);
        }
        same("none REFUSED", box.value(23), 0);
        same("in the queue", box.value(21), 0);
        box.tick();
        same("a tick does not open it", box, 3, LOCKED | 100);
    }

    private static void distanceGoesRound() {
        sentence("d being NUMBER - NEXT modulo 256");
        int[][] nextNumberAndD = {{250, 3, 9}, {250, 4, 10}, {250, 239, 245}, {250, 240, 246}, {0, 255, 255}, {0, 246, 246},
            {0, 245, 245}, {255, 0, 1}, {255, 8, 9}, {255, 9, 10}, {5, 251, 246}, {5, 250, 245}};
        for (int[] n : nextNumberAndD) {
            Box box = next(n[0]);
            send(box, TURN, n[1], 1);
            boolean locks = n[2] >= 10 && n[2] <= 245;
            same("NEXT " + n[0] + ", NUMBER " + n[1], box, locks ? 3 : 1, n[0] | (locks ? LOCKED : n[2] <= 9 ? AGAIN : 0));
        }
    }

    private static void besideWithAPlace() {
        sentence("if the queue has a place, its body comes there, ACCEPTED, BESIDE is one more (modulo 4)");
        Box box = box();
        for (int i = 1; i <= 8; i++) {
            same("packet " + i, send(box, BESIDE, 10 * i, 1), 1);
            same("packet " + i, box, 1, i % 4 * ONE_BESIDE);
            same("ACCEPTED", box.value(24), i);
        }
        Box again = box();
        send(again, TURN, 1, 1);
        send(again, BESIDE, 0, 1);
        same("AGAIN stays, and NEXT", again, 1, AGAIN | ONE_BESIDE);
    }

    private static void besideWithoutAPlace() {
        sentence("else it is REFUSED.");
        Box box = full();
        same("no place", send(box, BESIDE, 8, 1), 0);
        same("REFUSED", box.value(23), 1);
        same("the gate is as it was", box, 1, 8);
        same("in the queue", box.value(21), 8);
        same("ACCEPTED", box.value(24), 8);
        Box waiting = waiting();
        send(waiting, BESIDE, 8, 1);
        same("REFUSED while waiting", waiting.value(23), 1);
        same("the gate is as it was", waiting, 2, WAITS | AGAIN | 8);
    }

    private static void besideWhenLocked() {
        sentence("With BYPASS, without CONTROL: if the queue has a place, its body comes there, ACCEPTED");
        Box box = locked();
        for (int i = 1; i <= 8; i++) {
            same("packet " + i, send(box, BESIDE, 0, 1), 1);
            same("packet " + i, box, 3, LOCKED | i % 4 * ONE_BESIDE | 100);
        }
        same("no place", send(box, BESIDE, 0, 1), 0);
        same("REFUSED", box.value(23), 1);
    }

    private static void unlockWhenOpen() {
        sentence("UNLOCK: BESIDE is one more (modulo 4), AGAIN and WAITS are off, it is open.");
        Box box = next(100);
        send(box, TURN, 101, 1);
        same("AGAIN", box, 1, AGAIN | 100);
        same("not accepted", send(box, CONTROL, 0, 0), 0);
        same("AGAIN is off", box, 1, ONE_BESIDE | 100);
    }

    private static void unlockWhenWaiting() {
        sentence("UNLOCK: BESIDE is one more (modulo 4), AGAIN and WAITS are off, it is open.");
        Box box = waiting();
        send(box, CONTROL, 9, 0);
        same("open", box, 1, ONE_BESIDE | 8);
        send(box, TURN, 8, 1);
        same("there is no place yet", box, 2, WAITS | AGAIN | ONE_BESIDE | 8);
    }

    private static void unlockWhenLocked() {
        sentence("UNLOCK: BESIDE is one more (modulo 4), AGAIN and WAITS are off, it is open.");
        Box box = locked();
        send(box, CONTROL, 0, 0);
        same("open", box, 1, ONE_BESIDE | 100);
        same("it lets in what is next", send(box, TURN, 100, 1), 1);
        Box both = waiting();
        send(both, TURN, 100, 1);
        same("locked while it waited", both, 3, LOCKED | WAITS | AGAIN | 8);
        send(both, CONTROL, 0, 0);
        same("open", both, 1, ONE_BESIDE | 8);
    }

    private static void setWhenOpen() {
        sentence("SET: BESIDE is one more (modulo 4), and, if it is not locked, AGAIN and WAITS are off, NEXT is v");
        Box box = next(100);
        send(box, TURN, 101, 1);
        same("AGAIN", box, 1, AGAIN | 100);
        same("not accepted", send(box, CONTROL, 3, 130, 0, 255), 0);
        same("SET to 255", box, 1, ONE_BESIDE | 255);
        send(box, CONTROL, 3, 130, 0, 0);
        same("SET to 0", box, 1, 2 * ONE_BESIDE);
    }

    private static void setWhenWaiting() {
        sentence("if it is not locked, AGAIN and WAITS are off, NEXT is v, it is open.");
        Box box = waiting();
        send(box, CONTROL, 0, 130, 0, 8);
        same("open", box, 1, ONE_BESIDE | 8);
        same("the queue stays full", box.value(21), 8);
    }

    private static void setWhenLocked() {
        sentence("SET: BESIDE is one more (modulo 4), and, if it is not locked");
        Box box = locked();
        for (int i = 1; i <= 5; i++) {
            send(box, CONTROL, 0, 130, 0, 7);
            same("BESIDE alone", box, 3, LOCKED | i % 4 * ONE_BESIDE | 100);
        }
        Box both = waiting();
        send(both, TURN, 100, 1);
        send(both, CONTROL, 0, 130, 0, 7);
        same("AGAIN and WAITS stay", both, 3, LOCKED | WAITS | AGAIN | ONE_BESIDE | 8);
        same("none REFUSED", both.value(23), 0);
    }

    private static void besideGoesRound() {
        sentence("BESIDE 0 .. 3");
        Box unlock = box();
        Box set = box();
        for (int i = 1; i <= 9; i++) {
            send(unlock, CONTROL, 0, 0);
            same("UNLOCK " + i, unlock, 1, i % 4 * ONE_BESIDE);
            send(set, CONTROL, 0, 130, 0, 0);
            same("SET " + i, set, 1, i % 4 * ONE_BESIDE);
        }
        Box mixed = box();
        send(mixed, BESIDE, 0, 1);
        send(mixed, CONTROL, 0, 0);
        send(mixed, CONTROL, 0, 130, 0, 0);
        same("each kind counts", mixed, 1, 3 * ONE_BESIDE);
        send(mixed, BESIDE, 0, 1);
        same("and goes round", mixed, 1, 0);
    }

    private static void controlNeedsNoPlace() {
        sentence("THE QUEUE has at most 8 packets.");
        Box box = full();
        send(box, CONTROL, 0, 0);
        send(box, CONTROL, 0, 130, 0, 33);
        same("both were done", box, 1, 2 * ONE_BESIDE | 33);
        same("none REFUSED", box.value(23), 0);
        Box empty = box();
        send(empty, CONTROL, 0, 0);
        send(empty, CONTROL, 0, 130, 0, 33);
        same("and take none", empty.value(21), 0);
        same("nor are they ACCEPTED", empty.value(24), 0);
    }

    private static void everyBitOfTheWord() {
        sentence("THE WORD OF THE GATE, 32 bits: 00000001 00000000 00, locked, WAITS, AGAIN (1 bit each), BESIDE (2), 0, NEXT");
        Box box = waiting();
        send(box, TURN, 8 + 10, 1);
        send(box, CONTROL, 0, 130, 0, 1);
        send(box, CONTROL, 0, 130, 0, 1);
        send(box, CONTROL, 0, 130, 0, 1);
        same("all are on", box.word(), 0b00000001_00000000_00_1_1_1_11_0_00001000);
        Box high = next(255);
        same("NEXT 255 and nothing else", high.word(), 0b00000001_00000000_00_0_0_0_00_0_11111111);
    }

    private static void waitingWhileTheQueueIsHandled() {
        sentence("(3) The packets of the queue are HANDLED in order, each taken out first; then WAITS is off");
        Station s = new Station();
        s.order(3, 1, 1, 1, 2, 18, 21);
        s.order(3, 5, 1);
        for (int i = 0; i < 6; i++) {
            s.order(3, 27, 1);
        }
        send(s.box, TURN, 0, 1);
        same("waiting", s.box.value(18), 2);
        s.tick();
        same("six in the queue, and one of step 7", s.reports.size(), 7);
        for (int i = 0; i < 7; i++) {
            int[] due = i < 6 ? row(1, 0, 0, 0, 2, 0, 0, 0, 5 - i) : row(1, 0, 0, 0, 1, 0, 0, 0, 0);
            bytes("STATE and packets at " + i, s.reports.get(i).data(), due);
        }
    }

    private static void waitingEndsWithATick() {
        sentence("then WAITS is off, a waiting gate open.");
        Box box = waiting();
        box.tick();
        same("open, AGAIN stays", box, 1, AGAIN | 8);
        same("the queue is empty", box.value(21), 0);
        same("what was not let in", send(box, TURN, 8, 1), 1);
        same("AGAIN is off", box, 1, 9);
        Box locked = waiting();
        send(locked, TURN, 100, 1);
        locked.tick();
        same("locked while it waited", locked, 3, LOCKED | AGAIN | 8);
    }
}
