/** Edges of service 11, of step 2 of a tick, and of promise 11 (entry). */
public final class EdgesTimetableTest extends Edges {
    public static void main(String[] args) {
        commandWithAFault();
        timeNotAboveTheClock();
        asManyAsTheBoxCanHave();
        firstFailureOfANewEntry();
        longestEntry();
        entryWithinAnEntry();
        onAndOffOnceMore();
        emptyAndOff();
        goneByNumber();
        numbersModulo16384();
        noneOfThatNumber();
        timesGrow();
        timesGetLess();
        notAboveTheClock();
        noInt();
        nothingToShift();
        shiftOfAsManyAsThereCanBe();
        othersStayAsTheyWere();
        refusedShiftChangesNothing();
        shiftOfThoseThatAreDue();
        noneIsTold();
        atMost32AreTold();
        whatIsToldOfEach();
        dueAtTheClock();
        offWhenDue();
        ofOneTime();
        dueOnesMaySwitch();
        noSuchEntry();
        noSuchWhat();
        everyAnswer();
        expect.end();
    }

    private static Station with(int... times) {
        Station s = new Station();
        for (int i = 0; i < times.length; i++) {
            s.order(11, 4, entry(times[i], tellingTest(i)));
            if (i % 8 == 7) {
                s.tick();
            }
        }
        s.tick();
        return s;
    }

    private static String times(Station s) {
        StringBuilder text = new StringBuilder();
        for (int i = 0; i < s.box.value(20); i++) {
            text.append(s.box.entry(i, 0)).append(' ');
        }
        return text.toString();
    }

    private static int[] changed(int at, int bits) {
        int[] packet = command(1, 17, 1);
        packet[at] ^= bits;
        return Ground.rechecked(packet);
    }

    private static void commandWithAFault() {
        sentence("22 (the command has a FAULT)");
        int[] wrongCheck = command(1, 17, 1);
        wrongCheck[12] ^= 1;
        int[][] faulty = {filled(13, 0), changed(5, 1), join(command(1, 17, 1), row(0)), wrongCheck, changed(0, 16),
            changed(2, 64), changed(1, 1), changed(6, 16), command(1, 17, 2), command(1, 17, 1, 0), command(1, 3, 5),
            command(1, 6, 2, 0, 0, 2, 1), command(1, 19, 1, filled(13, 0))};
        Station s = new Station();
        for (int i = 0; i < faulty.length; i++) {
            same("faulty " + i, s.tryOut(11, 4, entry(1000, faulty[i])), 22);
        }
        same("there is none", s.box.value(20), 0);
        same("without a FAULT", s.tryOut(11, 4, entry(1000, command(1, 17, 1))), 0);
        same("with a FAILURE", s.tryOut(11, 4, entry(1000, command(1, 3, 5, 9))), 0);
    }

    private static void timeNotAboveTheClock() {
        sentence("20 (the time is not above the CLOCK)");
        for (int off = -2; off <= 2; off++) {
            Station s = new Station();
            ticks(s, 4);
            same("the CLOCK and " + off, s.tryOut(11, 4, entry(5 + off, command(1, 17, 1))), off > 0 ? 0 : 20);
            same("entries", s.box.value(20), off > 0 ? 1 : 0);
        }
        Station s = new Station();
        for (int time : new int[] {LEAST, -1, 0}) {
            same("the time " + time, s.tryOut(11, 4, entry(time, command(1, 17, 1))), 20);
        }
        same("the largest time", s.tryOut(11, 4, entry(LARGEST, command(1, 17, 1))), 0);
        same("the largest time", s.box.entry(0, 0), LARGEST);
    }

    private static void asManyAsTheBoxCanHave() {
        sentence("21 (there are as many as the box can have)");
        for (int most = 1; most <= 3; most++) {
            Station s = new Station(most, 256, 4, 1, 64);
            for (int i = 1; i <= most; i++) {
                same("entry " + i + " of " + most, s.tryOut(11, 4, entry(100, command(i, 17, 1))), 0);
            }
            same("one more than " + most, s.tryOut(11, 4, entry(100, command(9, 17, 1))), 21);
            same("entries", s.box.value(20), most);
            same("one goes", s.tryOut(11, 5, 0, 1), 0);
            same("a place", s.tryOut(11, 4, entry(100, command(9, 17, 1))), 0);
            same("no place", s.tryOut(11, 4, entry(100, command(9, 17, 1))), 21);
        }
    }

    private static void firstFailureOfANewEntry() {
        sentence("with a FAILURE, the first that is told below");
        Station s = new Station(1, 256, 4, 1, 64);
        same("22 before 20", s.tryOut(11, 4, entry(0, filled(13, 0))), 22);
        s.tryOut(11, 4, entry(100, command(1, 17, 1)));
        same("22 before 21", s.tryOut(11, 4, entry(100, filled(13, 0))), 22);
        same("20 before 21", s.tryOut(11, 4, entry(1, command(1, 17, 1))), 20);
    }

    private static void longestEntry() {
        sentence("11 4: time (4), a command: it is an entry");
        Station s = new Station();
        int[] load = command(9, 6, 2, join(row(0, 0, 219), filled(218, 1), row(99)));
        same("252 bytes in all", command(1, 11, 4, entry(5, load)).length, 252);
        same("on", s.tryOut(11, 1), 0);
        same("new", s.tryOut(11, 4, entry(4, load)), 0);
        ticks(s, 2);
        text("without a FAULT", s.told(), "");
        same("its last byte", s.box.memory(218), 99);
        same("and no more", s.box.memory(219), 0);
    }

    private static void entryWithinAnEntry() {
        sentence("is gone, and HANDLED if the timetable is on then.");
        Station s = new Station(1, 256, 4, 1, 64);
        s.order(11, 1);
        s.order(11, 4, entry(2, Ground.command(7, 8, 11, 4, entry(3, tellingTest(8)))));
        s.tick();
        s.tick();
        text("the only place is free for the one that it brings", done(s), "7 ");
        s.tick();
        text("which is due later", done(s), "8 ");
        same("none is left", s.box.value(20), 0);
    }

    private static void onAndOffOnceMore() {
        sentence("11 1, 11 2: the timetable is on, off (at first off).");
        Station s = with(4, 7, 10);
        same("off already", s.tryOut(11, 2), 0);
        same("on, but behind what is due", s.tryOut(11, 1), 0);
        same("on already", s.tryOut(11, 1), 0);
        text("the one of 4", done(s), "0 ");
        same("off", s.tryOut(11, 2), 0);
        same("off already", s.tryOut(11, 2), 0);
        s.tick();
        text("the one of 7", done(s), "");
        same("both are gone", s.box.value(20), 1);
    }

    private static void emptyAndOff() {
        sentence("11 3: it is empty and off.");
        Station s = new Station();
        same("of none", s.tryOut(11, 3), 0);
        s.order(11, 1);
        s.order(11, 4, entry(50, tellingTest(1)));
        s.order(11, 4, entry(60, tellingTest(2)));
        s.tick();
        same("of two", s.tryOut(11, 3), 0);
        same("none is left", s.box.value(20), 0);
        nothingThere("an entry", () -> s.box.entry(0, 0));
        s.order(11, 4, entry(5, tellingTest(3)));
        ticks(s, 2);
        text("it is off", s.told(), "");
        same("the new one is gone", s.box.value(20), 0);
        same("once more", s.tryOut(11, 3), 0);
    }

    private static void goneByNumber() {
        sentence("11 5: number (2): all entries with commands of that NUMBER (modulo 16384) are gone");
        Station s = new Station();
        int[] numbers = {7, 8, 7, 9, 7, 7};
        for (int i = 0; i < numbers.length; i++) {
            s.order(11, 4, entry(50 + i, command(numbers[i], 17, 1)));
        }
        s.tick();
        same("all four", s.tryOut(11, 5, 0, 7), 0);
        text("the others stay", times(s), "51 53 ");
        same("8", s.box.entry(0, 1), 8);
        same("9", s.box.entry(1, 1), 9);
        same("the last but one", s.tryOut(11, 5, 0, 9), 0);
        same("the last", s.tryOut(11, 5, 0, 8), 0);
        same("none", s.box.value(20), 0);
    }

    private static void numbersModulo16384() {
        sentence("all entries with commands of that NUMBER (modulo 16384) are gone");
        for (int round = 0; round < 4; round++) {
            for (int number : new int[] {0, 1, 255, 256, 16383}) {
                Station s = new Station();
                s.order(11, 4, entry(50, command(number, 17, 1)));
                s.order(11, 4, entry(51, command(number ^ 64, 17, 1)));
                s.tick();
                same(number + " and " + round + " times 16384", s.tryOut(11, 5, int2(number + 16384 * round)), 0);
                text("the other stays", times(s), "51 ");
            }
        }
    }

    private static void noneOfThatNumber() {
        sentence("23 (there is none)");
        Station s = new Station();
        same("of no entry at all", s.tryOut(11, 5, 0, 0), 23);
        s.tryOut(11, 4, entry(50, command(5, 17, 1)));
        for (int number : new int[] {0, 4, 6, 5 + 256, 5 + 8192, 5 + 16384 + 1}) {
            same("the number " + number, s.tryOut(11, 5, int2(number)), 23);
        }
        same("it is there still", s.box.value(20), 1);
        same("it goes", s.tryOut(11, 5, 0, 5), 0);
        same("once", s.tryOut(11, 5, 0, 5), 23);
    }

    private static void timesGrow() {
        sentence("11 15: by (4): all times grow by that (get less, if it is below 0)");
        Station s = with(50, 60, 60);
        same("by 0", s.tryOut(11, 15, int4(0)), 0);
        text("by 0", times(s), "50 60 60 ");
        same("by 1", s.tryOut(11, 15, int4(1)), 0);
        text("by 1", times(s), "51 61 61 ");
        same("by much", s.tryOut(11, 15, int4(LARGEST - 61)), 0);
        text("by much", times(s), LARGEST - 10 + " " + LARGEST + " " + LARGEST + " ");
        same("the order stays", s.box.entry(1, 1), 1);
        same("the order stays", s.box.entry(2, 1), 2);
    }

    private static void timesGetLess() {
        sentence("11 15: by (4): all times grow by that (get less, if it is below 0)");
        Station s = with(50, 60, 60);
        same("by -1", s.tryOut(11, 15, int4(-1)), 0);
        text("by -1", times(s), "49 59 59 ");
        same("by -40", s.tryOut(11, 15, int4(-40)), 0);
        text("by -40", times(s), "9 19 19 ");
        Station late = with(LARGEST);
        same("by much", late.tryOut(11, 15, int4(10 - LARGEST)), 0);
        text("by much", times(late), "10 ");
    }

    private static void notAboveTheClock() {
        sentence("24 (one would not be above the CLOCK, or no int)");
        for (int off = -1; off <= 1; off++) {
            // The command is handled at 2, so that 50 less 48 is the CLOCK itself.
            Station s = with(50, 60);
            same("the CLOCK and " + off, s.tryOut(11, 15, int4(-48 + off)), off > 0 ? 0 : 24);
            text("the times", times(s), off > 0 ? "3 13 " : "50 60 ");
        }
        Station s = with(50, 60);
        same("the least", s.tryOut(11, 15, int4(LEAST)), 24);
        same("one of two", s.tryOut(11, 15, int4(-55)), 24);
    }

    private static void noInt() {
        sentence("24 (one would not be above the CLOCK, or no int)");
        Station s = with(50, 60);
        same("one too much", s.tryOut(11, 15, int4(LARGEST - 59)), 24);
        same("both too much", s.tryOut(11, 15, int4(LARGEST)), 24);
        text("the times", times(s), "50 60 ");
        same("just so much", s.tryOut(11, 15, int4(LARGEST - 60)), 0);
        same("one more", s.tryOut(11, 15, int4(1)), 24);
        same("the last time", s.box.entry(1, 0), LARGEST);
    }

    private static void nothingToShift() {
        sentence("24 (one would not be above the CLOCK, or no int)");
        Station s = new Station();
        for (int by : new int[] {0, 1, -1, LEAST, LARGEST}) {
            same("of none by " + by, s.tryOut(11, 15, int4(by)), 0);
        }
        Station passed = with(3, 4);
        ticks(passed, 5);
        same("both are gone", passed.box.value(20), 0);
        same("of none any more", passed.tryOut(11, 15, int4(0)), 0);
        Station emptied = with(30, 40);
        emptied.tryOut(11, 3);
        same("of none any more", emptied.tryOut(11, 15, int4(LARGEST)), 0);
    }

    private static void shiftOfAsManyAsThereCanBe() {
        sentence("11 15: by (4): all times grow by that (get less, if it is below 0)");
        for (int most : new int[] {1, 2, 64}) {
            Station s = new Station(most, 64, 1, 1, 64);
            for (int i = 0; i < most; i++) {
                s.order(11, 4, entry(100 + i, command(i, 17, 1)));
                s.box.tick();
            }
            s.order(11, 15, int4(1000));
            s.box.tick();
            same("entries", s.box.value(20), most);
            for (int i = 0; i < most; i++) {
                same("time " + i + " of " + most, s.box.entry(i, 0), 1100 + i);
            }
        }
    }

    private static void othersStayAsTheyWere() {
        sentence("all entries with commands of that NUMBER (modulo 16384) are gone");
        for (int gone = 1; gone <= 4; gone++) {
            Station s = new Station(4, 256, 4, 1, 64);
            s.order(11, 1);
            for (int i = 1; i <= 4; i++) {
                s.order(11, 4, entry(10 + i, tellingTest(i)));
            }
            s.tick();
            s.tryOut(11, 5, 0, gone);
            s.tryOut(11, 4, entry(9, tellingTest(9)));
            StringBuilder due = new StringBuilder("9 ");
            for (int i = 1; i <= 4; i++) {
                due.append(i == gone ? "" : i + " ");
            }
            StringBuilder got = new StringBuilder();
            for (int i = 0; i < 4; i++) {
                got.append(s.box.entry(i, 1)).append(' ');
            }
            text("a new one behind " + gone, got.toString(), due.toString());
            got.setLength(0);
            for (int t = s.box.value(17); t < 15; t++) {
                s.tick();
                got.append(done(s));
            }
            text("each is handled, without " + gone, got.toString(), due.toString());
        }
    }

    private static void refusedShiftChangesNothing() {
        sentence("nothing is done, and a REPORT 1 4 is made");
        Station s = with(10, 20, 30);
        same("the first would be too early", s.tryOut(11, 15, int4(-9)), 24);
        text("the times", times(s), "10 20 30 ");
        same("the last would be too late", s.tryOut(11, 15, int4(LARGEST - 29)), 24);
        text("the times", times(s), "10 20 30 ");
    }

    private static void shiftOfThoseThatAreDue() {
        sentence("24 (one would not be above the CLOCK, or no int)");
        for (int by = 0; by <= 2; by++) {
            Station s = new Station();
            s.order(11, 1);
            s.order(11, 4, entry(2, Ground.command(1, 8, 11, 15, int4(by))));
            s.order(11, 4, entry(2, tellingTest(2)));
            s.tick();
            s.tick();
            text("by " + by, done(s), by == 0 ? "2 " : "1 ");
            text("the times by " + by, times(s), by == 0 ? "" : 2 + by + " ");
        }
    }

    private static void noneIsTold() {
        sentence("11 17: REPORT 11 13: how many are told (1), at most 32");
        Station s = new Station();
        same("of none", s.tryOut(11, 17), 0);
        text("told", s.told(), "11 13");
        bytes("of none", s.reports.get(0).data(), 0);
    }

    private static void atMost32AreTold() {
        sentence("11 17: REPORT 11 13: how many are told (1), at most 32");
        for (int count : new int[] {1, 31, 32, 33, 40}) {
            int[] times = new int[count];
            for (int i = 0; i < count; i++) {
                times[i] = 1000 - i;
            }
            Station s = with(times);
            same("entries", s.box.value(20), count);
            s.tryOut(11, 17);
            int told = Math.min(count, 32);
            int[] data = s.reports.get(0).data();
            same("told of " + count, data[0], told);
            same("their bytes", data.length, 1 + 6 * told);
            for (int i = 0; i < told; i++) {
                int time = 1000 - count + 1 + i;
                int at = 1 + 6 * i;
                same("time " + i + " of " + count, data[at + 2] * 256 + data[at + 3], time);
                same("number " + i + " of " + count, data[at + 4] * 256 + data[at + 5], 1000 - time);
            }
        }
    }

    private static void whatIsToldOfEach() {
        sentence("and of each in order its time (4) and NUMBER (2).");
        Station s = new Station();
        s.order(11, 4, entry(LARGEST, command(16383, 17, 1)));
        s.order(11, 4, entry(9, command(0, 17, 1)));
        s.order(11, 4, entry(0x01020304, command(0x2345, 17, 1)));
        s.tick();
        s.tryOut(11, 17);
        bytes("three", s.reports.get(0).data(), 3, 0, 0, 0, 9, 0, 0, 1, 2, 3, 4, 0x23, 0x45, 127, 255, 255, 255, 0x3F, 0xFF);
    }

    private static void dueAtTheClock() {
        sentence("(2) As long as there is an entry whose time is at most the CLOCK");
        Station s = new Station();
        s.order(11, 1);
        s.order(11, 4, entry(3, tellingTest(3)));
        s.order(11, 4, entry(2, tellingTest(2)));
        s.order(11, 4, entry(4, tellingTest(4)));
        for (int t = 1; t <= 5; t++) {
            s.tick();
            text("at " + t, done(s), t >= 2 && t <= 4 ? t + " " : "");
            same("left at " + t, s.box.value(20), t < 2 ? 3 : Math.max(0, 4 - t));
        }
        Station all = new Station();
        all.order(11, 1);
        for (int i = 0; i < 64; i++) {
            all.order(11, 4, entry(20, command(i, 8, 1, function(1, 0, i))));
            if (i % 7 == 6) {
                all.box.tick();
            }
        }
        for (int t = all.box.value(17); t < 20; t++) {
            same("64 of one time wait", all.box.value(20), t == 9 ? 63 : 64);
            all.box.tick();
        }
        same("all are gone", all.box.value(20), 0);
        same("the last was handled last", all.box.value(8), 63);
        same("all were handled", all.box.value(25), 1 + 64 + 64);
    }

    private static void offWhenDue() {
        sentence("is gone, and HANDLED if the timetable is on then.");
        Station s = with(3, 4, 5);
        ticks(s, 2);
        text("off", s.told(), "");
        same("gone", s.box.value(20), 2);
        same("not handled", s.box.value(25), 3);
        s.order(11, 1);
        s.tick();
        text("on behind it", s.told(), "");
        same("gone", s.box.value(20), 1);
        s.tick();
        text("on before it", done(s), "2 ");
    }

    private static void ofOneTime() {
        sentence("the first of these by time, of one time in the order in which they came");
        Station s = new Station();
        s.order(11, 1);
        int[] times = {5, 4, 5, 3, 4, 5, 3};
        for (int i = 0; i < times.length; i++) {
            s.order(11, 4, entry(times[i], tellingTest(i)));
        }
        s.tick();
        s.order(11, 15, int4(2));
        s.tick();
        s.order(11, 4, entry(7, tellingTest(7)));
        s.order(11, 4, entry(5, tellingTest(8)));
        s.tick();
        s.tick();
        s.tick();
        text("of 5", done(s), "3 6 8 ");
        s.tick();
        text("of 6", done(s), "1 4 ");
        s.tick();
        text("of 7", done(s), "0 2 5 7 ");
    }

    private static void dueOnesMaySwitch() {
        sentence("is gone, and HANDLED if the timetable is on then.");
        Station s = new Station();
        s.order(11, 1);
        s.order(11, 4, entry(2, Ground.command(1, 8, 11, 2)));
        s.order(11, 4, entry(2, Ground.command(2, 8, 11, 1)));
        s.order(11, 4, entry(2, tellingTest(3)));
        s.order(11, 4, entry(3, tellingTest(4)));
        s.tick();
        s.tick();
        text("off for those behind it", done(s), "1 ");
        same("they are gone", s.box.value(20), 1);
        Station cleared = new Station();
        cleared.order(11, 1);
        cleared.order(11, 4, entry(2, Ground.command(1, 8, 11, 3)));
        cleared.order(11, 4, entry(2, tellingTest(2)));
        cleared.order(11, 4, entry(9, tellingTest(3)));
        cleared.tick();
        cleared.tick();
        text("all are gone", done(cleared), "1 ");
        same("none", cleared.box.value(20), 0);
        Station dropped = new Station();
        dropped.order(11, 1);
        dropped.order(11, 4, entry(2, Ground.command(1, 8, 11, 5, 0, 2)));
        dropped.order(11, 4, entry(2, tellingTest(2)));
        dropped.order(11, 4, entry(2, tellingTest(3)));
        dropped.tick();
        dropped.tick();
        text("one of them is gone", done(dropped), "1 3 ");
    }

    private static void noSuchEntry() {
        sentence("NoSuchElementException if there is no such entry, or what.");
        Box empty = box();
        for (int i : new int[] {0, -1, 1, LEAST, LARGEST}) {
            nothingThere("entry " + i + " of none", () -> empty.entry(i, 0));
        }
        Station s = with(50, 60);
        for (int i : new int[] {-1, 2, 3, 63, 64, LEAST, LARGEST}) {
            for (int what = 0; what < 3; what++) {
                int asked = what;
                nothingThere("entry " + i + ", " + what, () -> s.box.entry(i, asked));
            }
        }
        s.tryOut(11, 5, 0, 1);
        nothingThere("one that is gone", () -> s.box.entry(1, 0));
        same("the one that is not", s.box.entry(0, 0), 50);
    }

    private static void noSuchWhat() {
        sentence("NoSuchElementException if there is no such entry, or what.");
        Station s = with(50, 60);
        for (int what : new int[] {-1, 3, 4, LEAST, LARGEST}) {
            nothingThere("what " + what, () -> s.box.entry(0, what));
            nothingThere("what " + what + " of none", () -> s.box.entry(2, what));
        }
    }

    private static void everyAnswer() {
        sentence("what 0: its time, 1: its command's NUMBER, 2: its SERVICE * 256 + KIND");
        Station s = new Station();
        s.order(11, 4, entry(LARGEST, command(16383, 19, 5, 1)));
        s.order(11, 4, entry(9, command(0, 3, 27, 1)));
        s.tick();
        int[][] due = {{9, 0, 3 * 256 + 27}, {LARGEST, 16383, 19 * 256 + 5}};
        for (int i = 0; i < 2; i++) {
            for (int what = 0; what < 3; what++) {
                same("entry " + i + ", " + what, s.box.entry(i, what), due[i][what]);
            }
        }
    }
}
