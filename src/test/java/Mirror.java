import java.util.ArrayList;
import java.util.Arrays;
import java.util.Comparator;
import java.util.HashMap;
import java.util.HashSet;
import java.util.List;
import java.util.Map;
import java.util.NoSuchElementException;
import java.util.Set;
import java.util.TreeMap;

/** A second box, written straight from the document with texts of bits and lists, to be held against the first. */
final class Mirror {
    private record Entry(long time, int order, int[] command) {
    }

    private record Form(int every, int[] parameters, boolean on) {
    }

    private record Raised(int e, int b) {
    }

    private static final class Limit {
        boolean on;
        int count;
        int parameter;
        int times;
        int low;
        int high;
        int e;
        int link;
    }

    private static final class Action {
        int[] command;
        boolean on;
    }

    private static final String KINDS = "3.1 3.3 3.5 3.6 3.27 5.5 5.6 6.2 6.5 6.9 8.1 11.1 11.2 11.3 11.4 11.5 11.15 "
        + "11.17 12.1 12.2 12.5 12.6 15.1 15.2 15.9 15.11 15.12 17.1 19.1 19.2 19.4 19.5";

    private final int most;
    private final int length;
    private final int frames;
    private final int patience;
    private final int storeBytes;

    private final List<Integer> tape = new ArrayList<>();
    private final int[] memory = new int[4096];
    private String searched = "";
    private boolean collects;
    private String block = "";
    private List<Integer> candidate = new ArrayList<>();

    private final List<int[]> queue = new ArrayList<>();
    private int gateState = 1;
    private int next;
    private boolean waits;
    private boolean again;
    private int beside;

    private final int[] inAndOut = new int[16];
    private int mode = 1;
    private int clock;
    private int alarm = -1;
    private int putRight;
    private int refused;
    private int accepted;
    private int handled;
    private int failed;
    private int lostReports;
    private int lostEvents;
    private int broken;

    private boolean timetableOn;
    private final List<Entry> timetable = new ArrayList<>();
    private int orders;
    private final TreeMap<Integer, Form> forms = new TreeMap<>();
    private final TreeMap<Integer, Limit> limits = new TreeMap<>();
    private final Set<Integer> untold = new HashSet<>();
    private final Map<Integer, Action> actions = new HashMap<>();
    private final List<Raised> raised = new ArrayList<>();

    private final Map<String, Integer> made = new HashMap<>();
    private int madeInAll;
    private final Set<Integer> storedServices = new HashSet<>();
    private final List<int[]> store = new ArrayList<>();
    private boolean retrieving;
    private int from;
    private int to;
    private final Set<int[]> retrieved = new HashSet<>();

    /** Of each channel the packets; of the first of them some bytes may be gone. */
    private final List<List<int[]>> channels = List.of(new ArrayList<>(), new ArrayList<>());
    private final int[] goneOfFirst = new int[2];
    private final int[] sentOf = new int[8];
    private int sent;
    private final List<int[]> latest = new ArrayList<>();

    Mirror(int entries, int length, int frames, int patience, int store) {
        most = Math.min(64, Math.max(1, entries));
        this.length = Math.min(256, Math.max(64, length));
        this.frames = Math.min(4, Math.max(1, frames));
        this.patience = Math.min(100, Math.max(1, patience));
        storeBytes = Math.min(16384, Math.max(64, store));
    }

    boolean feed(int... ints) {
        if (tape.size() > 4096 - 20) {
            return false;
        }
        for (int n : ints) {
            for (int b : Ground.int4(n)) {
                tape.add(b);
            }
        }
        return true;
    }

    /** The tape with just these bytes. */
    void become(int... bytes) {
        tape.clear();
        for (int b : bytes) {
            tape.add(b);
        }
    }

    boolean end(int n) {
        if (n < 0 || n > tape.size()) {
            return false;
        }
        tape.subList(n, tape.size()).clear();
        return true;
    }

    int uplink() {
        int before = accepted;
        for (int b : tape) {
            for (char bit : bits(b, 8).toCharArray()) {
                hear(bit);
            }
        }
        tape.clear();
        return accepted - before;
    }

    private static String bits(int n, int count) {
        StringBuilder text = new StringBuilder();
        for (int i = count - 1; i >= 0; i--) {
            text.append((n >>> i & 1) == 1 ? '1' : '0');
        }
        return text.toString();
    }

    private void hear(char bit) {
        if (!collects) {
            searched += bit;
            searched = searched.substring(Math.max(0, searched.length() - 16));
            collects = searched.length() == 16 && differences(searched, "1110101110010000") <= 1;
            return;
        }
        block += bit;
        if (block.length() == 64) {
            String whole = block;
            block = "";
            takeBlock(whole.substring(0, 63));
        }
    }

    private static int differences(String a, String b) {
        int n = 0;
        for (int i = 0; i < a.length(); i++) {
            n += a.charAt(i) == b.charAt(i) ? 0 : 1;
        }
        return n;
    }

    private void takeBlock(String sixtyThree) {
        char[] row = sixtyThree.toCharArray();
        for (int i = 56; i < 63; i++) {
            row[i] = turn(row[i]);
        }
        boolean right = divides(row);
        for (int i = 0; !right && i < 63; i++) {
            row[i] = turn(row[i]);
            if (divides(row)) {
                right = true;
                putRight++;
            } else {
                row[i] = turn(row[i]);
            }
        }
        for (int i = 0; right && i < 7; i++) {
            candidate.add(Integer.parseInt(new String(row, 8 * i, 8), 2));
        }
        if (right && candidate.size() < 37 * 7) {
            return;
        }
        List<Integer> came = candidate;
        candidate = new ArrayList<>();
        collects = false;
        searched = "";
        if (!came.isEmpty()) {
            takeFrame(came.stream().mapToInt(Integer::intValue).toArray());
        }
    }

    private static char turn(char bit) {
        return bit == '0' ? '1' : '0';
    }

    private static boolean divides(char[] polynomial) {
        char[] row = polynomial.clone();
        String divisor = "11000101";
        for (int i = 0; i + 8 <= row.length; i++) {
            for (int j = 0; row[i] == '1' && j < 8; j++) {
                // The leading bit goes last, so that it says till then whether to take the divisor away.
                int at = i + 7 - j;
                if (divisor.charAt(7 - j) == '1') {
                    row[at] = turn(row[at]);
                }
            }
        }
        return new String(row).indexOf('1') < 0;
    }

    private void takeFrame(int[] bytes) {
        String head = "";
        for (int i = 0; i < 5; i++) {
            head += bits(bytes[i], 8);
        }
        boolean bypass = head.charAt(2) == '1';
        boolean control = head.charAt(3) == '1';
        int last = Integer.parseInt(head.substring(22, 32), 2);
        int number = Integer.parseInt(head.substring(32), 2);
        boolean valid = head.startsWith("00") && head.startsWith("00" + bits(346, 10) + "000000", 4)
            && last >= 7 && bytes.length >= last + 1 && Ground.check(Arrays.copyOf(bytes, last + 1)) == 0
            && !(control && !bypass);
        int[] body = valid ? Arrays.copyOfRange(bytes, 5, last - 1) : new int[0];
        boolean unlock = Arrays.equals(body, new int[] {0});
        boolean set = body.length == 3 && body[0] == 130 && body[1] == 0;
        if (!valid || control && !unlock && !set) {
            refused++;
        } else if (!bypass) {
            inTurn(number, body);
        } else if (!control) {
            if (queue.size() < 8) {
                queue.add(body);
                accepted++;
                beside = (beside + 1) % 4;
            } else {
                refused++;
            }
        } else {
            beside = (beside + 1) % 4;
            if (unlock || gateState != 3) {
                next = set ? body[2] : next;
                again = false;
                waits = false;
                gateState = 1;
            }
        }
    }

    private void inTurn(int number, int[] body) {
        int d = Math.floorMod(number - next, 256);
        if (d == 0 && gateState == 1 && queue.size() < 8) {
            queue.add(body);
            accepted++;
            next = (next + 1) % 256;
            again = false;
        } else if (d == 0 && gateState == 1) {
            again = true;
            waits = true;
            gateState = 2;
        } else if (d >= 1 && d <= 9 && gateState == 1) {
            again = true;
        } else if (d >= 10 && d <= 245 && gateState != 3) {
            gateState = 3;
        }
    }

    boolean sense(int k, int v) {
        if (k < 0 || k > 7) {
            return false;
        }
        inAndOut[k] = v;
        return true;
    }

    int tick() {
        clock++;
        while (!timetable.isEmpty() && sorted().get(0).time <= clock) {
            Entry first = sorted().get(0);
            timetable.remove(first);
            if (timetableOn) {
                handle(first.command);
            }
        }
        while (!queue.isEmpty()) {
            handle(queue.remove(0));
        }
        waits = false;
        gateState = gateState == 2 ? 1 : gateState;
        limits.values().forEach(this::watch);
        int worked = 0;
        for (; worked < 64 && !raised.isEmpty(); worked++) {
            work(raised.remove(0));
        }
        lostEvents += raised.size();
        raised.clear();
        if (alarm != -1 && alarm <= clock) {
            alarm = -1;
            becomeMode(0);
        }
        forms.forEach((id, form) -> {
            if (form.on && clock % form.every == 0) {
                reportForm(id);
            }
        });
        retrieve();
        return goDown();
    }

    private List<Entry> sorted() {
        List<Entry> row = new ArrayList<>(timetable);
        row.sort(Comparator.comparingLong(Entry::time).thenComparingInt(Entry::order));
        return row;
    }

    private void watch(Limit limit) {
        if (!limit.on) {
            return;
        }
        int now = value(limit.parameter);
        if (limit.low <= now && now <= limit.high) {
            limit.count = 0;
        } else if (++limit.count == limit.times) {
            broken++;
            raise(limit.e, now);
            if (limit.link == 1 && alarm == -1) {
                alarm = clock + patience - 1;
            }
        }
    }

    private void raise(int e, int b) {
        if (raised.size() == 64) {
            lostEvents++;
        } else {
            raised.add(new Raised(e, b));
        }
    }

    private void work(Raised event) {
        if (!untold.contains(event.e)) {
            report(5, 1 + event.e / 8, Ground.join(Ground.row(event.e), Ground.int4(event.b)));
        }
        Action action = actions.get(event.e);
        if (action != null && action.on) {
            handle(action.command);
        }
    }

    private void becomeMode(int m) {
        if (m != mode) {
            mode = m;
            raise(1, m);
            if (m == 0) {
                System.arraycopy(new int[] {0, 0, 0, 0, 50, 50, 100, 1}, 0, inAndOut, 8, 8);
            }
        }
    }

    private void reportForm(int id) {
        int[] data = {id};
        for (int p : forms.get(id).parameters) {
            data = Ground.join(data, Ground.int4(value(p)));
        }
        report(3, 25, data);
    }

    private void report(int s, int k, int... data) {
        String series = s + "." + k;
        int before = made.getOrDefault(series, 0);
        int[] packet = Ground.withCheck(Ground.join(
            Ground.bytes(Integer.parseInt("00001" + bits(42, 11), 2), 2),
            Ground.bytes(Integer.parseInt("11" + bits(madeInAll, 14), 2), 2),
            Ground.bytes(11 + data.length + 2 - 1, 2), Ground.row(32, s, k), Ground.bytes(before, 2),
            Ground.row(0, 0), Ground.int4(clock), data));
        made.put(series, before + 1);
        madeInAll++;
        if (waiting(0) + packet.length <= 4096) {
            channels.get(0).add(packet);
        } else {
            lostReports++;
        }
        if (storedServices.contains(s) && packet.length <= storeBytes) {
            while (stored() + packet.length > storeBytes) {
                store.remove(0);
            }
            store.add(packet);
        }
    }

    private int stored() {
        return store.stream().mapToInt(p -> p.length).sum();
    }

    private int waiting(int channel) {
        return channels.get(channel).stream().mapToInt(p -> p.length).sum() - goneOfFirst[channel];
    }

    private static int int4(int[] bytes, int at) {
        return bytes[at] << 24 | bytes[at + 1] << 16 | bytes[at + 2] << 8 | bytes[at + 3];
    }

    private void retrieve() {
        if (!retrieving) {
            return;
        }
        for (int[] packet : store) {
            int time = int4(packet, 13);
            if (time < from || time > to || retrieved.contains(packet)) {
                continue;
            }
            if (waiting(1) + packet.length > 4096) {
                return;
            }
            channels.get(1).add(packet.clone());
            retrieved.add(packet);
        }
        retrieving = false;
    }

    private int goDown() {
        latest.clear();
        int busy = 0;
        for (int f = 0; f < frames; f++) {
            int channel = waiting(0) > 0 ? 0 : waiting(1) > 0 ? 1 : 7;
            busy += channel == 7 ? 0 : 1;
            int[] field = new int[length - 12];
            Arrays.fill(field, 85);
            int first = channel == 7 ? 2046 : fill(field, channel);
            String head = "00" + bits(346, 10) + bits(channel, 3) + "1" + bits(sent, 8) + bits(sentOf[channel], 8)
                + "00011" + bits(first, 11);
            int[] frame = {};
            for (int i = 0; i < head.length(); i += 8) {
                frame = Ground.join(frame, Ground.row(Integer.parseInt(head.substring(i, i + 8), 2)));
            }
            latest.add(Ground.withCheck(Ground.join(frame, field, Ground.int4(word()))));
            sent++;
            sentOf[channel]++;
        }
        return busy;
    }

    private int fill(int[] field, int channel) {
        List<int[]> row = channels.get(channel);
        int first = 2047;
        int at = 0;
        while (at < field.length) {
            if (row.isEmpty()) {
                int[] empty = new int[Math.max(7, field.length - at)];
                Arrays.fill(empty, 85);
                int[] head = {0b00000111, 255, 0b11000000, 0, 0, empty.length - 6 - 1};
                System.arraycopy(head, 0, empty, 0, 6);
                row.add(empty);
            }
            if (goneOfFirst[channel] == 0 && first == 2047) {
                first = at;
            }
            int part = Math.min(field.length - at, row.get(0).length - goneOfFirst[channel]);
            System.arraycopy(row.get(0), goneOfFirst[channel], field, at, part);
            at += part;
            goneOfFirst[channel] += part;
            if (goneOfFirst[channel] == row.get(0).length) {
                row.remove(0);
                goneOfFirst[channel] = 0;
            }
        }
        return first;
    }

    int down(int f, int k) {
        if (f < 0 || f >= latest.size() || k < 0 || k >= length) {
            throw new NoSuchElementException();
        }
        return latest.get(f)[k];
    }

    int value(int k) {
        if (k < 0 || k > 31) {
            throw new NoSuchElementException();
        }
        if (k < 16) {
            return inAndOut[k];
        }
        int[] others = {mode, clock, gateState, next, timetable.size(), queue.size(), putRight, refused, accepted,
            handled, failed, lostReports, store.size(), waiting(0), lostEvents, broken};
        return others[k - 16];
    }

    int word() {
        return Integer.parseInt("000000010000000000" + (gateState == 3 ? 1 : 0) + (waits ? 1 : 0) + (again ? 1 : 0)
            + bits(beside, 2) + "0" + bits(next, 8), 2);
    }

    int memory(int k) {
        return k < 0 || k > 4095 ? -1 : memory[k];
    }

    int entry(int i, int what) {
        if (i < 0 || i >= timetable.size() || what < 0 || what > 2) {
            throw new NoSuchElementException();
        }
        Entry entry = sorted().get(i);
        int[] c = entry.command;
        return what == 0 ? (int) entry.time : what == 1 ? numberOf(c) : c[7] * 256 + c[8];
    }

    private static int numberOf(int[] command) {
        return (command[2] * 256 + command[3]) % 16384;
    }

    int limit(int id, int what) {
        Limit limit = limits.get(id);
        if (limit == null || what < 0 || what > 1) {
            return -1;
        }
        return what == 1 ? limit.count : limit.on ? 1 : 0;
    }

    int state(int what) {
        int[] all = {waiting(1), alarm, retrieving ? 1 : 0, stored(), raised.size(), collects ? 1 : 0};
        return what < 0 || what > 5 ? -1 : all[what];
    }

    private void handle(int[] command) {
        handled++;
        int[] four = Arrays.copyOf(Arrays.copyOf(command, Math.min(4, command.length)), 4);
        int fault = fault(command);
        if (fault != 0) {
            failed++;
            report(1, 2, Ground.join(four, Ground.bytes(fault, 2)));
            return;
        }
        int wishes = command[6] % 16;
        if (wishes % 2 == 1) {
            report(1, 1, four);
        }
        int[] data = Arrays.copyOfRange(command, 11, command.length - 2);
        int failure = tryOrDo(command[7], command[8], data, false);
        if (failure != 0) {
            failed++;
            report(1, 4, Ground.join(four, Ground.bytes(failure, 2)));
            return;
        }
        if (wishes / 2 % 2 == 1) {
            report(1, 3, four);
        }
        tryOrDo(command[7], command[8], data, true);
        if (wishes / 8 == 1) {
            report(1, 7, four);
        }
    }

    private static int fault(int[] c) {
        if (c.length < 13 || c.length - 6 - 1 != c[4] * 256 + c[5]) {
            return 1;
        }
        if (Ground.check(c) != 0) {
            return 2;
        }
        String head = bits(c[0], 8) + bits(c[1], 8) + bits(c[2], 8);
        if (!head.startsWith("00011") || !head.startsWith("11", 16)) {
            return 3;
        }
        if (Integer.parseInt(head.substring(5, 16), 2) != 42) {
            return 4;
        }
        if (c[6] / 16 != 2) {
            return 5;
        }
        if (!Arrays.asList(KINDS.split(" ")).contains(c[7] + "." + c[8])) {
            return 6;
        }
        return fits(c[7] + "." + c[8], Arrays.copyOfRange(c, 11, c.length - 2)) ? 0 : 7;
    }

    private static boolean fits(String kind, int[] data) {
        switch (kind) {
            case "3.1", "6.2":
                return data.length >= 3 && data.length == 3 + data[2];
            case "11.4":
                return data.length >= 4 + 13;
            case "19.1":
                return data.length >= 1 + 13;
            case "11.1", "11.2", "11.3", "11.17", "15.12", "17.1":
                return data.length == 0;
            case "6.5":
                return data.length == 3;
            case "6.9", "11.15", "15.11":
                return data.length == 4;
            case "8.1":
                return data.length == 6;
            case "11.5":
                return data.length == 2;
            case "12.5":
                return data.length == 13;
            case "15.9":
                return data.length == 8;
            default:
                return data.length == 1;
        }
    }

    /** The failure without doing, or what is done: each service tells the first and then does the second. */
    private int tryOrDo(int service, int kind, int[] d, boolean really) {
        switch (service) {
            case 3:
                return kind == 1 ? newForm(d, really) : oldForm(kind, d[0], really);
            case 5:
                return event(kind, d[0], really);
            case 6:
                return memoryService(kind, d, really);
            case 8:
                return function(d[0], d[1], int4(d, 2), really);
            case 11:
                return timetableService(kind, d, really);
            case 12:
                return kind == 5 ? newLimit(d, really) : oldLimit(kind, d[0], really);
            case 15:
                return storeService(kind, d, really);
            case 17:
                if (really) {
                    report(17, 2);
                }
                return 0;
            default:
                return actionService(kind, d, really);
        }
    }

    private int newForm(int[] d, boolean really) {
        boolean bad = d[1] == 0 || d[2] == 0 || d[2] > 8;
        for (int i = 3; i < d.length; i++) {
            bad |= d[i] > 31;
        }
        if (!really) {
            return bad ? 13 : forms.containsKey(d[0]) ? 11 : forms.size() == 8 ? 12 : 0;
        }
        forms.put(d[0], new Form(d[1], Arrays.copyOfRange(d, 3, d.length), false));
        return 0;
    }

    private int oldForm(int kind, int id, boolean really) {
        Form form = forms.get(id);
        if (!really) {
            return form == null ? 14 : kind == 3 && form.on ? 15 : 0;
        }
        if (kind == 3) {
            forms.remove(id);
        } else if (kind == 27) {
            reportForm(id);
        } else {
            forms.put(id, new Form(form.every, form.parameters, kind == 5));
        }
        return 0;
    }

    private int event(int kind, int e, boolean really) {
        if (!really) {
            return e > 31 ? 16 : 0;
        }
        if (kind == 5) {
            untold.remove(e);
        } else {
            untold.add(e);
        }
        return 0;
    }

    private int memoryService(int kind, int[] d, boolean really) {
        int place = d[0] * 256 + d[1];
        int n = kind == 9 ? d[2] * 256 + d[3] : d[2];
        if (!really) {
            return n == 0 || place + n > 4096 ? 17 : 0;
        }
        if (kind == 2) {
            System.arraycopy(d, 3, memory, place, n);
            return 0;
        }
        int[] part = Arrays.copyOfRange(memory, place, place + n);
        report(6, kind == 5 ? 6 : 10, Ground.join(d, kind == 5 ? part : Ground.bytes(Ground.check(part), 2)));
        return 0;
    }

    private int function(int f, int a, int b, boolean really) {
        if (!really) {
            int[] highest = {-1, 7, 2, 31};
            if (f > 3 || a > highest[f]) {
                return 18;
            }
            return mode == 0 && (f == 1 || f == 2 && a == 2) ? 19 : 0;
        }
        if (f == 1) {
            inAndOut[8 + a] = b;
        } else if (f == 2) {
            becomeMode(a);
        } else {
            raise(a, b);
        }
        return 0;
    }

    private int timetableService(int kind, int[] d, boolean really) {
        if (!really) {
            return timetableFailure(kind, d);
        }
        if (kind <= 3) {
            timetableOn = kind == 1;
            if (kind == 3) {
                timetable.clear();
            }
        } else if (kind == 4) {
            timetable.add(new Entry(int4(d, 0), orders++, Arrays.copyOfRange(d, 4, d.length)));
        } else if (kind == 5) {
            timetable.removeIf(e -> numberOf(e.command) == (d[0] * 256 + d[1]) % 16384);
        } else if (kind == 15) {
            timetable.replaceAll(e -> new Entry(e.time + int4(d, 0), e.order, e.command));
        } else {
            List<Entry> told = sorted().subList(0, Math.min(32, timetable.size()));
            int[] data = {told.size()};
            for (Entry e : told) {
                data = Ground.join(data, Ground.int4((int) e.time), Ground.bytes(numberOf(e.command), 2));
            }
            report(11, 13, data);
        }
        return 0;
    }

    private int timetableFailure(int kind, int[] d) {
        if (kind == 4) {
            if (fault(Arrays.copyOfRange(d, 4, d.length)) != 0) {
                return 22;
            }
            return int4(d, 0) <= clock ? 20 : timetable.size() == most ? 21 : 0;
        }
        if (kind == 5) {
            int number = (d[0] * 256 + d[1]) % 16384;
            return timetable.stream().anyMatch(e -> numberOf(e.command) == number) ? 0 : 23;
        }
        if (kind == 15) {
            return timetable.stream().map(e -> e.time + int4(d, 0))
                .anyMatch(t -> t <= clock || t > Integer.MAX_VALUE) ? 24 : 0;
        }
        return 0;
    }

    private int newLimit(int[] d, boolean really) {
        Limit limit = new Limit();
        limit.parameter = d[1];
        limit.times = d[2];
        limit.low = int4(d, 3);
        limit.high = int4(d, 7);
        limit.e = d[11];
        limit.link = d[12];
        if (!really) {
            if (d[1] > 31 || d[2] == 0 || limit.low > limit.high || d[11] > 31 || d[12] > 1) {
                return 13;
            }
            return limits.containsKey(d[0]) ? 25 : limits.size() == 16 ? 26 : 0;
        }
        limits.put(d[0], limit);
        return 0;
    }

    private int oldLimit(int kind, int id, boolean really) {
        Limit limit = limits.get(id);
        if (!really) {
            return limit == null ? 27 : kind == 6 && limit.on ? 15 : 0;
        }
        if (kind == 6) {
            limits.remove(id);
        } else {
            limit.on = kind == 1;
            limit.count = 0;
        }
        return 0;
    }

    private int storeService(int kind, int[] d, boolean really) {
        if (!really) {
            if (kind <= 2) {
                return d[0] > 31 ? 32 : 0;
            }
            return kind == 9 && retrieving || kind == 12 && !retrieving ? 28 : 0;
        }
        if (kind == 1) {
            storedServices.add(d[0]);
        } else if (kind == 2) {
            storedServices.remove(d[0]);
        } else if (kind == 9) {
            retrieving = true;
            retrieved.clear();
            from = int4(d, 0);
            to = int4(d, 4);
        } else if (kind == 12) {
            retrieving = false;
        } else {
            store.removeIf(p -> int4(p, 13) <= int4(d, 0));
        }
        return 0;
    }

    private int actionService(int kind, int[] d, boolean really) {
        Action action = actions.get(d[0]);
        if (!really) {
            if (d[0] > 31) {
                return 16;
            }
            if (kind == 1) {
                return fault(Arrays.copyOfRange(d, 1, d.length)) != 0 ? 22 : action != null ? 29 : 0;
            }
            return action == null ? 30 : kind == 2 && action.on ? 15 : 0;
        }
        if (kind == 1) {
            action = new Action();
            action.command = Arrays.copyOfRange(d, 1, d.length);
            actions.put(d[0], action);
        } else if (kind == 2) {
            actions.remove(d[0]);
        } else {
            action.on = kind == 4;
        }
        return 0;
    }
}
