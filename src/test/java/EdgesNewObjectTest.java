/** Edges of promise 1: what is asked for too small and too large, and all that a new object has not. */
public final class EdgesNewObjectTest extends Edges {
    public static void main(String[] args) {
        lastCall();
        entries();
        frameLength();
        framesATick();
        patience();
        store();
        storeToItsLastByte();
        everyParameter();
        everyState();
        emptyMemoryAndTables();
        nothingIsOn();
        expect.end();
    }

    private static void lastCall() {
        sentence("An object is used for at most 512 calls after it has been made");
        OrbitBox box = new OrbitBox(1, 64, 1, 1, 64);
        for (int call = 1; call < 512; call++) {
            box.tick();
        }
        same("the 512th call, behind 511 ticks", box.value(17), 511);
    }

    private static void entries() {
        sentence("Entries that the timetable can have 1 .. 64 ... (what is less or more is the nearest of these)");
        int[][] askedAndDue = {{LEAST, 1}, {-1, 1}, {0, 1}, {1, 1}, {2, 2}, {63, 63}, {64, 64}, {65, 64}, {LARGEST, 64}};
        for (int[] pair : askedAndDue) {
            Station s = new Station(pair[0], 256, 4, 1, 64);
            for (int i = 0; i < pair[1]; i++) {
                s.order(11, 4, entry(1000, command(i, 17, 1)));
                s.box.tick();
            }
            ticks(s, 2);
            same("entries, asked for " + pair[0], s.box.value(20), pair[1]);
            same("one more, asked for " + pair[0], s.tryOut(11, 4, entry(1000, command(1, 17, 1))), 21);
            same("entries still, asked for " + pair[0], s.box.value(20), pair[1]);
        }
    }

    private static void frameLength() {
        sentence("LENGTH of frames 64 .. 256 ... (what is less or more is the nearest of these)");
        int[][] askedAndDue = {{LEAST, 64}, {-1, 64}, {0, 64}, {63, 64}, {64, 64}, {65, 65}, {255, 255}, {256, 256},
            {257, 256}, {LARGEST, 256}};
        for (int[] pair : askedAndDue) {
            Box box = new Box(1, pair[0], 1, 1, 64);
            box.tick();
            int[] frame = new int[pair[1]];
            for (int k = 0; k < frame.length; k++) {
                frame[k] = box.down(0, k);
            }
            same("the CHECK of the whole frame, asked for " + pair[0], Ground.check(frame), 0);
            nothingThere("a byte more, asked for " + pair[0], () -> box.down(0, pair[1]));
        }
    }

    private static void framesATick() {
        sentence("frames a tick 1 .. 4 ... (what is less or more is the nearest of these)");
        int[][] askedAndDue = {{LEAST, 1}, {-1, 1}, {0, 1}, {1, 1}, {2, 2}, {3, 3}, {4, 4}, {5, 4}, {LARGEST, 4}};
        for (int[] pair : askedAndDue) {
            Box box = new Box(1, 64, pair[0], 1, 64);
            box.tick();
            same("the last one's count, asked for " + pair[0], box.down(pair[1] - 1, 2), pair[1] - 1);
            nothingThere("one more, asked for " + pair[0], () -> box.down(pair[1], 0));
            box.tick();
            same("the first one's count of the next tick, asked for " + pair[0], box.down(0, 2), pair[1]);
        }
    }

    private static void patience() {
        sentence("PATIENCE 1 .. 100 ... (what is less or more is the nearest of these)");
        int[][] askedAndDue = {{LEAST, 1}, {-1, 1}, {0, 1}, {1, 1}, {2, 2}, {99, 99}, {100, 100}, {101, 100}, {LARGEST, 100}};
        for (int[] pair : askedAndDue) {
            Station s = new Station(1, 64, 1, pair[0], 64);
            s.order(12, 5, limit(1, 0, 1, 1, 2, 3, 1));
            s.order(12, 1, 1);
            for (int t = 1; t < pair[1]; t++) {
                s.box.tick();
                same("the alarm at " + t + ", asked for " + pair[0], s.box.state(1), pair[1]);
                same("the MODE at " + t + ", asked for " + pair[0], s.box.value(16), 1);
            }
            s.box.tick();
            same("no alarm any more, asked for " + pair[0], s.box.state(1), NONE);
            same("the MODE then, asked for " + pair[0], s.box.value(16), 0);
        }
    }

    /** Fills a store with reports of 24 bytes: event 2 raises itself, so that a tick works 64 of it. */
    private static Station overfull(int store) {
        Station s = new Station(1, 64, 1, 1, store);
        s.order(15, 1, 5);
        s.order(19, 1, action(2, command(1, 8, 1, raise(2, 0))));
        s.order(19, 4, 2);
        for (int t = 0; t < 12; t++) {
            s.order(8, 1, raise(2, 0));
            s.box.tick();
        }
        return s;
    }

    private static void store() {
        sentence("bytes of the store 64 .. 16384 (what is less or more is the nearest of these)");
        int[][] askedAndDue = {{LEAST, 64}, {-1, 64}, {0, 64}, {63, 64}, {64, 64}, {71, 71}, {72, 72}, {16367, 16367},
            {16368, 16368}, {16384, 16384}, {16385, 16384}, {16400, 16384}, {LARGEST, 16384}};
        for (int[] pair : askedAndDue) {
            Station s = overfull(pair[0]);
            same("packets of 24 bytes, asked for " + pair[0], s.box.value(28), pair[1] / 24);
            same("their bytes, asked for " + pair[0], s.box.state(3), pair[1] / 24 * 24);
        }
    }

    private static void storeToItsLastByte() {
        sentence("bytes of the store 64 .. 16384");
        for (int store : new int[] {LEAST, 0, 63, 64, 65, 66}) {
            for (int n = 41; n <= 45; n++) {
                Station s = new Station(1, 64, 1, 1, store);
                s.order(15, 1, 6);
                s.order(6, 5, 0, 0, n);
                s.box.tick();
                same(n + 22 + " bytes in " + store, s.box.state(3), n + 22 <= Math.max(store, 64) ? n + 22 : 0);
            }
        }
        mostOfTheStore(16384);
        mostOfTheStore(16385);
        mostOfTheStore(LARGEST);
    }

    private static void mostOfTheStore(int asked) {
        for (int over = 0; over < 2; over++) {
            Station s = new Station(1, 64, 1, 1, asked);
            s.order(15, 1, 6);
            for (int i = 0; i < 59; i++) {
                s.order(6, 5, 0, 0, 255);
                s.box.tick();
            }
            s.order(6, 5, 0, 0, 16384 - 59 * 277 - 22 + over);
            s.box.tick();
            same("packets, too many by " + over + ", asked for " + asked, s.box.value(28), 60 - over);
            same("bytes, too many by " + over + ", asked for " + asked, s.box.state(3), over == 0 ? 16384 : 16385 - 277);
        }
    }

    private static void everyParameter() {
        sentence("MODE 1, CLOCK 0; all else is empty, off, 0.");
        Box box = box();
        for (int k = 0; k < 32; k++) {
            same("parameter " + k, box.value(k), k == 16 || k == 18 ? 1 : 0);
        }
        same("the word of the gate", box.word(), WORD);
    }

    private static void everyState() {
        sentence("MODE 1, CLOCK 0; all else is empty, off, 0.");
        Box box = box();
        for (int what = 0; what < 6; what++) {
            same("state " + what, box.state(what), what == 1 ? NONE : 0);
        }
    }

    private static void emptyMemoryAndTables() {
        sentence("MODE 1, CLOCK 0; all else is empty, off, 0.");
        Box box = box();
        for (int k = 0; k < 4096; k++) {
            same("byte " + k + " of the memory", box.memory(k), 0);
        }
        for (int id = 0; id < 256; id++) {
            same("limit " + id, box.limit(id, 0), NONE);
        }
        nothingThere("an entry", () -> box.entry(0, 0));
        nothingThere("a frame that went down", () -> box.down(0, 0));
        no("a byte on the tape", box.end(1));
        yes("the tape has none", box.end(0));
        same("an uplink of nothing", box.uplink(), 0);
        Station s = new Station();
        for (int id = 0; id < 256; id += 51) {
            same("form " + id, s.tryOut(3, 27, id), 14);
        }
        for (int e = 0; e < 32; e++) {
            same("action of " + e, s.tryOut(19, 4, e), 30);
        }
    }

    private static void nothingIsOn() {
        sentence("MODE 1, CLOCK 0; all else is empty, off, 0.");
        Station s = new Station();
        s.order(11, 4, entry(2, command(1, 17, 1)));
        s.order(3, 1, 1, 1, 1, 17);
        s.order(12, 5, limit(1, 0, 1, 1, 2, 3, 1));
        s.order(19, 1, action(4, command(1, 17, 1)));
        s.order(8, 1, raise(4, 0));
        s.order(11, 17);
        s.order(3, 27, 1);
        s.sendPacket(Ground.command(9, 15, 6, 5, 0, 0, 1));
        s.tick();
        text("neither form nor action", s.told(), "11 13, 3 25, 1 1, 1 3, 6 6, 1 7, 5 1");
        same("no service is stored", s.box.value(28), 0);
        same("the limit is off", s.box.limit(1, 0), 0);
        s.tick();
        text("the timetable is off", s.told(), "");
        same("no limit was broken", s.box.value(31), 0);
    }
}
