import java.util.NoSuchElementException;

/** The software of a spacecraft. README.md says how it is used, DOC.md what it promises. */
public final class OrbitBox {
    public static final int NONE = -1;

    private static final int TAPE_BYTES = 4096;
    private static final int FED_BYTES = 20;
    private static final int MEMORY_BYTES = 4096;
    private static final int CRAFT_NUMBER = 346;
    private static final int PACKET_NUMBER = 42;
    private static final int LONGEST_PACKET = 252;
    private static final int SENSORS = 8;
    private static final int ACTUATORS = 8;
    private static final int PARAMETERS = 32;
    private static final int EVENTS = 32;
    private static final int FILLER = 85;

    private final Row tape;
    private final Row memory;
    private final Receiver receiver;
    private final Gate gate;
    private final Timetable timetable;
    private final Events events;
    private final Table limits;
    private final Downlink downlink;
    private final Reports reports;
    private final Craft craft;
    private final Handler handler;

    public OrbitBox(int entries, int length, int frames, int patience, int store) {
        tape = new Row(TAPE_BYTES);
        memory = new Row(MEMORY_BYTES);
        memory.length = MEMORY_BYTES;
        receiver = new Receiver();
        gate = new Gate();
        timetable = new Timetable(nearest(entries, 1, Timetable.MOST));
        events = new Events();
        limits = new Table(16, Table.LIMIT_WIDTH);
        downlink = new Downlink(nearest(length, 64, 256), nearest(frames, 1, 4));
        reports = new Reports(downlink.live, nearest(store, 64, 16384));
        craft = new Craft(nearest(patience, 1, 100), receiver, gate, timetable, events, reports);
        handler = new Handler(craft, new Table(8, Table.FORM_WIDTH), limits, memory);
    }

    public boolean feed(int a, int b, int c, int d, int e) {
        if (tape.length + FED_BYTES > TAPE_BYTES) {
            return false;
        }
        tape.add(a, 4);
        tape.add(b, 4);
        tape.add(c, 4);
        tape.add(d, 4);
        tape.add(e, 4);
        return true;
    }

    public boolean end(int n) {
        if (n < 0 || n > tape.length) {
            return false;
        }
        tape.length = n;
        return true;
    }

    public int uplink() {
        int accepted = 0;
        for (int i = 0; i < tape.length; i++) {
            int eight = tape.number(i, 1);
            for (int bit = 7; bit >= 0; bit--) {
                if (receiver.hear(eight >>> bit & 1) && gate.receive(receiver.candidate)) {
                    accepted++;
                }
            }
        }
        tape.length = 0;
        return accepted;
    }

    public boolean sense(int k, int v) {
        if (k < 0 || k >= SENSORS) {
            return false;
        }
        craft.wires[k] = v;
        return true;
    }

    public int tick() {
        craft.clock++;
        handler.handleDueEntries();
        handler.handleQueue();
        craft.watch(limits);
        handler.workEvents();
        craft.heedAlarm();
        handler.sendDueForms();
        reports.retrieve(downlink.replay);
        return downlink.sendFrames(gate.asWord());
    }

    public int down(int f, int k) throws NoSuchElementException {
        if (f < 0 || f >= downlink.sent || k < 0 || k >= downlink.frameLength) {
            throw new NoSuchElementException();
        }
        return downlink.frames[f].number(k, 1);
    }

    public int value(int k) throws NoSuchElementException {
        if (k < 0 || k >= PARAMETERS) {
            throw new NoSuchElementException();
        }
        return craft.read(k);
    }

    public int word() {
        return gate.asWord();
    }

    public int memory(int k) {
        return k >= 0 && k < MEMORY_BYTES ? memory.number(k, 1) : NONE;
    }

    public int entry(int i, int what) throws NoSuchElementException {
        if (i < 0 || i >= timetable.size || what < 0 || what > 2) {
            throw new NoSuchElementException();
        }
        if (what == 0) {
            return timetable.times[i];
        }
        return what == 1 ? timetable.numberOf(i) : timetable.commands[i].number(7, 2);
    }

    public int limit(int id, int what) {
        int i = limits.find(id);
        if (i == NONE || what < 0 || what > 1) {
            return NONE;
        }
        return limits.get(i, what == 0 ? Table.ON : Table.COUNT);
    }

    public int state(int what) {
        switch (what) {
            case 0: return downlink.replay.size;
            case 1: return craft.alarm;
            case 2: return reports.retrieving ? 1 : 0;
            case 3: return reports.store.size;
            case 4: return events.raisedCount();
            case 5: return receiver.collects ? 1 : 0;
            default: return NONE;
        }
    }

    private static int nearest(int n, int low, int high) {
        return Math.max(low, Math.min(high, n));
    }

    /** Bytes in a row that is made once and filled again and again. */
    private static final class Row {
        private final int[] bytes;
        private int length;

        Row(int most) {
            bytes = new int[most];
            length = 0;
        }

        /** The number in some bytes; those that the row lacks count as 0. */
        int number(int from, int count) {
            int n = 0;
            for (int i = from; i < from + count; i++) {
                n = n << 8 | (i >= 0 && i < length ? bytes[i] : 0);
            }
            return n;
        }

        void add(int n, int count) {
            for (int i = count - 1; i >= 0; i--) {
                if (length < bytes.length) {
                    bytes[length] = n >>> 8 * i & 255;
                    length++;
                }
            }
        }

        void replace(int from, int n, int count) {
            for (int i = 0; i < count; i++) {
                if (from + i >= 0 && from + i < length) {
                    bytes[from + i] = n >>> 8 * (count - 1 - i) & 255;
                }
            }
        }

        void addPart(Row other, int from, int count) {
            for (int i = from; i < from + count; i++) {
                if (length < bytes.length && i >= 0 && i < other.length) {
                    bytes[length] = other.bytes[i];
                    length++;
                }
            }
        }

        void become(Row other, int from, int count) {
            length = 0;
            addPart(other, from, count);
        }

        int check(int from, int count) {
            int c = 65535;
            for (int i = from; i < from + count; i++) {
                // 69665 has so few bits that the eight doublings of a byte come to these shifts.
                int x = c >>> 8 ^ (i >= 0 && i < length ? bytes[i] : 0);
                x ^= x >>> 4;
                c = (c << 8 ^ x << 12 ^ x << 5 ^ x) & 65535;
            }
            return c;
        }
    }

    /** Numbers that wait in a ring, bytes of packets mostly. */
    private static final class Ring {
        /** Stands above the eight bits of a packet's first byte, for frames tell where packets begin. */
        static final int BEGINS = 256;

        private final int[] cells;
        private int head;
        private int size;

        Ring(int most) {
            cells = new int[most];
            head = 0;
            size = 0;
        }

        boolean hasRoom(int count) {
            return count <= cells.length - size;
        }

        void put(int n) {
            if (size < cells.length) {
                int i = head + size;
                cells[i < cells.length ? i : i - cells.length] = n;
                size++;
            }
        }

        boolean putPacket(Row packet) {
            if (!hasRoom(packet.length)) {
                return false;
            }
            for (int i = 0; i < packet.length; i++) {
                put(i == 0 ? packet.bytes[i] | BEGINS : packet.bytes[i]);
            }
            return true;
        }

        int get(int at) {
            if (at < 0 || at >= size) {
                return 0;
            }
            int i = head + at;
            return cells[i < cells.length ? i : i - cells.length];
        }

        int take() {
            int n = get(0);
            drop(1);
            return n;
        }

        void drop(int count) {
            int gone = count < size ? count : size;
            head += gone;
            if (head >= cells.length) {
                head -= cells.length;
            }
            size -= gone;
        }

        int number(int from, int count) {
            int n = 0;
            for (int at = from; at < from + count; at++) {
                if (at >= 0 && at < size) {
                    int i = head + at;
                    n = n << 8 | cells[i < cells.length ? i : i - cells.length] & 255;
                }
            }
            return n;
        }
    }

    /** Finds the blocks in the bits that arrive, and puts them right. */
    private static final class Receiver {
        private static final int MARK = 0xEB90;
        private static final int MARK_BITS = 16;
        private static final int BLOCK_BITS = 64;
        private static final int CHECKED_BITS = 63;
        private static final int DATA_BITS = 56;
        private static final int DIVISOR = 0xC5;
        private static final int MOST_BYTES = 37 * 7;

        private final Row candidate;
        private boolean collects;
        private int window;
        private int bits;
        private long block;
        private int remainder;
        private int putRight;

        Receiver() {
            candidate = new Row(MOST_BYTES);
        }

        /** Whether a frame came with this bit: the candidate is that frame then. */
        boolean hear(int bit) {
            if (collects) {
                return collect(bit);
            }
            window = (window << 1 | bit) & 65535;
            bits = Math.min(bits + 1, MARK_BITS);
            if (bits == MARK_BITS && Integer.bitCount(window ^ MARK) <= 1) {
                collects = true;
                candidate.length = 0;
                beginBlock();
            }
            return false;
        }

        private void beginBlock() {
            bits = 0;
            block = 0;
            remainder = 0;
        }

        private boolean collect(int bit) {
            block = block << 1 | bit;
            bits++;
            if (bits <= CHECKED_BITS) {
                divide(bits > DATA_BITS ? 1 - bit : bit);
            }
            return bits == BLOCK_BITS && endBlock();
        }

        private void divide(int bit) {
            remainder = remainder << 1 | bit;
            if (remainder > 127) {
                remainder ^= DIVISOR;
            }
        }

        private boolean endBlock() {
            boolean right = remainder == 0 || turnWrongBit();
            for (int i = BLOCK_BITS - 8; right && i >= BLOCK_BITS - DATA_BITS; i -= 8) {
                candidate.add((int) (block >>> i), 1);
            }
            beginBlock();
            if (right && candidate.length < MOST_BYTES) {
                return false;
            }
            collects = false;
            window = 0;
            return candidate.length > 0;
        }

        private boolean turnWrongBit() {
            // One wrong bit leaves the remainder that its own power of x has, and each power has another.
            int power = 1;
            for (int i = 0; i < CHECKED_BITS; i++) {
                if (power == remainder) {
                    block ^= 1L << i + 1;
                    putRight++;
                    return true;
                }
                power <<= 1;
                if (power > 127) {
                    power ^= DIVISOR;
                }
            }
            return false;
        }
    }

    /** Lets frames in, in their turn or beside it, and holds their packets in the queue. */
    private static final class Gate {
        static final int MOST_QUEUED = 8;

        private static final int OPEN = 1;
        private static final int WAITING = 2;
        private static final int LOCKED = 3;
        private static final int BYPASS = 0x2000;
        private static final int CONTROL = 0x1000;
        private static final int HEADER_BYTES = 5;

        private final Row[] queue;
        private int first;
        private int queued;
        private int status;
        private int next;
        private boolean waits;
        private boolean again;
        private int beside;
        private int refused;
        private int accepted;

        Gate() {
            queue = new Row[MOST_QUEUED];
            for (int i = 0; i < MOST_QUEUED; i++) {
                queue[i] = new Row(LONGEST_PACKET);
            }
            status = OPEN;
        }

        /** Whether the frame was ACCEPTED. */
        boolean receive(Row frame) {
            if (!isValid(frame)) {
                refused++;
                return false;
            }
            int head = frame.number(0, 2);
            if ((head & BYPASS) == 0) {
                return receiveInTurn(frame);
            }
            if ((head & CONTROL) == 0) {
                return receiveBeside(frame);
            }
            obey(frame);
            return false;
        }

        private static boolean isValid(Row frame) {
            int head = frame.number(0, 2);
            int last = frame.number(2, 2);
            if ((head & ~(BYPASS | CONTROL)) != CRAFT_NUMBER || last < 7 || last > 1023) {
                return false;
            }
            if (last + 1 > frame.length || frame.check(0, last + 1) != 0) {
                return false;
            }
            return (head & CONTROL) == 0 || (head & BYPASS) != 0 && isDirective(frame);
        }

        private static boolean isDirective(Row frame) {
            int length = bodyLength(frame);
            return length == 1 && frame.number(HEADER_BYTES, 1) == 0
                || length == 3 && frame.number(HEADER_BYTES, 2) == 130 * 256;
        }

        private static int bodyLength(Row frame) {
            return frame.number(2, 2) + 1 - HEADER_BYTES - 2;
        }

        private boolean receiveInTurn(Row frame) {
            int ahead = frame.number(4, 1) - next & 255;
            if (ahead >= 10 && ahead <= 245) {
                status = LOCKED;
            }
            if (status != OPEN || ahead > 9) {
                return false;
            }
            if (ahead > 0) {
                again = true;
                return false;
            }
            if (!enqueue(frame)) {
                again = true;
                waits = true;
                status = WAITING;
                return false;
            }
            next = next + 1 & 255;
            again = false;
            return true;
        }

        private boolean receiveBeside(Row frame) {
            if (!enqueue(frame)) {
                refused++;
                return false;
            }
            beside = beside + 1 & 3;
            return true;
        }

        private void obey(Row directive) {
            beside = beside + 1 & 3;
            boolean sets = bodyLength(directive) == 3;
            if (sets && status == LOCKED) {
                return;
            }
            if (sets) {
                next = directive.number(HEADER_BYTES + 2, 1);
            }
            again = false;
            waits = false;
            status = OPEN;
        }

        private boolean enqueue(Row frame) {
            if (queued >= MOST_QUEUED) {
                return false;
            }
            queue[(first + queued) % MOST_QUEUED].become(frame, HEADER_BYTES, bodyLength(frame));
            queued++;
            accepted++;
            return true;
        }

        boolean takeOut(Row into) {
            if (queued == 0) {
                return false;
            }
            into.become(queue[first], 0, queue[first].length);
            first = (first + 1) % MOST_QUEUED;
            queued--;
            return true;
        }

        void stopWaiting() {
            waits = false;
            if (status == WAITING) {
                status = OPEN;
            }
        }

        int asWord() {
            return 1 << 24 | (status == LOCKED ? 1 << 13 : 0) | (waits ? 1 << 12 : 0)
                | (again ? 1 << 11 : 0) | beside << 9 | next;
        }
    }

    /** Commands that wait for their time, in the order in which they are due. */
    private static final class Timetable {
        static final int MOST = 64;

        private static final int MOST_TOLD = 32;

        private final int[] times;
        private final Row[] commands;
        private int size;
        private boolean on;

        Timetable(int most) {
            times = new int[most];
            commands = new Row[most];
            for (int i = 0; i < most; i++) {
                commands[i] = new Row(LONGEST_PACKET);
            }
        }

        boolean isFull() {
            return size >= times.length;
        }

        boolean isDue(int clock) {
            return size > 0 && times[0] <= clock;
        }

        int numberOf(int i) {
            return commands[i].number(2, 2) & 16383;
        }

        void add(int time, Row source, int from, int count) {
            if (isFull()) {
                return;
            }
            Row free = commands[size];
            int at = size;
            for (; at > 0 && times[at - 1] > time; at--) {
                times[at] = times[at - 1];
                commands[at] = commands[at - 1];
            }
            free.become(source, from, count);
            commands[at] = free;
            times[at] = time;
            size++;
        }

        private void remove(int at) {
            Row free = commands[at];
            for (int i = at; i + 1 < size; i++) {
                times[i] = times[i + 1];
                commands[i] = commands[i + 1];
            }
            size--;
            commands[size] = free;
        }

        void takeFirst(Row into) {
            if (size > 0) {
                into.become(commands[0], 0, commands[0].length);
                remove(0);
            }
        }

        boolean has(int number) {
            for (int i = 0; i < size; i++) {
                if (numberOf(i) == number) {
                    return true;
                }
            }
            return false;
        }

        void removeAll(int number) {
            for (int i = size - 1; i >= 0; i--) {
                if (numberOf(i) == number) {
                    remove(i);
                }
            }
        }

        boolean canShift(int by, int clock) {
            for (int i = 0; i < size; i++) {
                long time = (long) times[i] + by;
                if (time <= clock || time != (int) time) {
                    return false;
                }
            }
            return true;
        }

        void shift(int by) {
            for (int i = 0; i < size; i++) {
                times[i] += by;
            }
        }

        void tell(Row report) {
            int told = Math.min(size, MOST_TOLD);
            report.add(told, 1);
            for (int i = 0; i < told; i++) {
                report.add(times[i], 4);
                report.add(numberOf(i), 2);
            }
        }
    }

    /** Events that were raised, whether they are told, and the actions that they have. */
    private static final class Events {
        static final int MOST_RAISED = 64;

        private final Ring raised;
        private final boolean[] silent;
        private final boolean[] hasAction;
        private final boolean[] actionOn;
        private final Row[] actions;
        private int lost;

        Events() {
            raised = new Ring(2 * MOST_RAISED);
            silent = new boolean[EVENTS];
            hasAction = new boolean[EVENTS];
            actionOn = new boolean[EVENTS];
            actions = new Row[EVENTS];
            for (int e = 0; e < EVENTS; e++) {
                actions[e] = new Row(LONGEST_PACKET);
            }
        }

        static boolean isThere(int e) {
            return e >= 0 && e < EVENTS;
        }

        int raisedCount() {
            return raised.size / 2;
        }

        void raise(int e, int b) {
            if (raised.hasRoom(2)) {
                raised.put(e);
                raised.put(b);
            } else {
                lost++;
            }
        }

        boolean isTold(int e) {
            return isThere(e) && !silent[e];
        }

        boolean takeAction(int e, Row into) {
            if (!isThere(e) || !hasAction[e] || !actionOn[e]) {
                return false;
            }
            into.become(actions[e], 0, actions[e].length);
            return true;
        }

        void loseRest() {
            lost += raisedCount();
            raised.drop(raised.size);
        }
    }

    /** Forms or limits: a line of numbers each, in the order of their ids. */
    private static final class Table {
        static final int ID = 0;
        static final int ON = 1;

        static final int EVERY = 2;
        static final int LISTED = 3;
        static final int LIST = 4;
        static final int MOST_LISTED = 8;
        static final int FORM_WIDTH = LIST + MOST_LISTED;

        static final int COUNT = 2;
        static final int PARAMETER = 3;
        static final int TIMES = 4;
        static final int LOW = 5;
        static final int HIGH = 6;
        static final int EVENT = 7;
        static final int LINK = 8;
        static final int LIMIT_WIDTH = 9;

        private final int most;
        private final int width;
        private final int[] cells;
        private int size;

        Table(int most, int width) {
            this.most = most;
            this.width = width;
            cells = new int[most * width];
        }

        boolean isFull() {
            return size >= most;
        }

        int find(int id) {
            for (int i = 0; i < size; i++) {
                if (cells[i * width + ID] == id) {
                    return i;
                }
            }
            return NONE;
        }

        int get(int line, int column) {
            return line >= 0 && line < size && column >= 0 && column < width ? cells[line * width + column] : 0;
        }

        void set(int line, int column, int n) {
            if (line >= 0 && line < size && column >= 0 && column < width) {
                cells[line * width + column] = n;
            }
        }

        /** The new line, which is off and of zeros but for its id; NONE if there is no place. */
        int add(int id) {
            if (isFull()) {
                return NONE;
            }
            int line = 0;
            while (line < size && cells[line * width + ID] < id) {
                line++;
            }
            for (int i = size * width - 1; i >= line * width; i--) {
                cells[i + width] = cells[i];
            }
            size++;
            for (int column = 0; column < width; column++) {
                cells[line * width + column] = column == ID ? id : 0;
            }
            return line;
        }

        void remove(int line) {
            if (line < 0 || line >= size) {
                return;
            }
            size--;
            for (int i = line * width; i < size * width; i++) {
                cells[i] = cells[i + width];
            }
        }
    }

    /** Makes reports, keeps those that are to be stored, and brings stored ones back. */
    private static final class Reports {
        private static final int SERVICES = 32;
        private static final int LONGEST_REPORT = 277;

        private final Ring live;
        private final Ring store;
        private final Row packet;
        private final boolean[] stored;
        private final int[] made;
        private int madeInAll;
        private int lost;
        private int packets;
        private boolean retrieving;
        private int retrieveFrom;
        private int retrieveTo;
        /** Counted from the oldest byte of the store, so it goes back when that goes. */
        private int retrieveNext;

        Reports(Ring live, int storeBytes) {
            this.live = live;
            store = new Ring(storeBytes);
            packet = new Row(LONGEST_REPORT);
            stored = new boolean[SERVICES];
            made = new int[SERVICES * SERVICES];
        }

        static boolean isService(int service) {
            return service >= 0 && service < SERVICES;
        }

        /** The report's packet, to which its data is added before it is sent. */
        Row begin(int service, int kind, int clock) {
            int series = (service * SERVICES + kind) % made.length;
            packet.length = 0;
            packet.add(1 << 11 | PACKET_NUMBER, 2);
            packet.add(3 << 14 | madeInAll & 16383, 2);
            packet.add(0, 2);
            packet.add(32, 1);
            packet.add(service, 1);
            packet.add(kind, 1);
            packet.add(made[series], 2);
            packet.add(0, 2);
            packet.add(clock, 4);
            made[series]++;
            madeInAll++;
            return packet;
        }

        void send() {
            packet.replace(4, packet.length + 2 - 7, 2);
            packet.add(packet.check(0, packet.length), 2);
            if (!live.putPacket(packet)) {
                lost++;
            }
            int service = packet.number(7, 1);
            if (!isService(service) || !stored[service] || packet.length > store.cells.length) {
                return;
            }
            for (int i = packets; i > 0 && !store.hasRoom(packet.length); i--) {
                dropOldest();
            }
            store.putPacket(packet);
            packets++;
        }

        private void dropOldest() {
            int length = store.number(4, 2) + 7;
            store.drop(length);
            packets--;
            retrieveNext = retrieveNext > length ? retrieveNext - length : 0;
        }

        void dropUpTo(int time) {
            for (int i = packets; i > 0 && store.number(13, 4) <= time; i--) {
                dropOldest();
            }
        }

        void beginRetrieval(int from, int to) {
            retrieving = true;
            retrieveFrom = from;
            retrieveTo = to;
            retrieveNext = 0;
        }

        void retrieve(Ring replay) {
            for (int i = 0; retrieving && i < packets && retrieveNext < store.size; i++) {
                int length = store.number(retrieveNext + 4, 2) + 7;
                int time = store.number(retrieveNext + 13, 4);
                if (time >= retrieveFrom && time <= retrieveTo) {
                    if (!replay.hasRoom(length)) {
                        return;
                    }
                    copyStored(length, replay);
                }
                retrieveNext += length;
            }
            retrieving = false;
        }

        private void copyStored(int length, Ring replay) {
            for (int i = 0; i < length; i++) {
                replay.put(store.get(retrieveNext + i));
            }
        }
    }

    /** Sends what waits in the channels down, in frames of one length. */
    private static final class Downlink {
        private static final int CHANNEL_BYTES = 4096;
        private static final int IDLE = 7;
        private static final int IDLE_FIRST = 2046;
        private static final int NO_FIRST = 2047;
        private static final int HEADER_BYTES = 6;
        private static final int TRAILER_BYTES = 6;
        private static final int SHORTEST_EMPTY = 7;

        private final Ring live;
        private final Ring replay;
        private final Row[] frames;
        private final int frameLength;
        private final int[] sentOf;
        private int sentInAll;
        /** Of the latest tick: none have gone down before the first. */
        private int sent;

        Downlink(int frameLength, int framesPerTick) {
            this.frameLength = frameLength;
            live = new Ring(CHANNEL_BYTES);
            replay = new Ring(CHANNEL_BYTES);
            sentOf = new int[IDLE + 1];
            frames = new Row[framesPerTick];
            for (int f = 0; f < framesPerTick; f++) {
                frames[f] = new Row(frameLength);
            }
        }

        /** How many of the frames are not of the idle channel. */
        int sendFrames(int gateWord) {
            int busy = 0;
            for (int f = 0; f < frames.length; f++) {
                int channel = live.size > 0 ? 0 : replay.size > 0 ? 1 : IDLE;
                writeFrame(frames[f], channel, gateWord);
                if (channel != IDLE) {
                    busy++;
                }
            }
            sent = frames.length;
            return busy;
        }

        private void writeFrame(Row frame, int channel, int gateWord) {
            frame.length = 0;
            frame.add(CRAFT_NUMBER << 4 | channel << 1 | 1, 2);
            frame.add(sentInAll, 1);
            frame.add(sentOf[channel], 1);
            frame.add(0, 2);
            int first = channel == IDLE ? fillIdle(frame) : fill(frame, channel == 0 ? live : replay);
            frame.replace(4, 3 << 11 | first, 2);
            frame.add(gateWord, 4);
            frame.add(frame.check(0, frame.length), 2);
            sentInAll++;
            sentOf[channel]++;
        }

        private int fillIdle(Row frame) {
            for (int i = HEADER_BYTES; i < frameLength - TRAILER_BYTES; i++) {
                frame.add(FILLER, 1);
            }
            return IDLE_FIRST;
        }

        private int fill(Row frame, Ring waiting) {
            int first = NO_FIRST;
            int end = frameLength - TRAILER_BYTES;
            for (int i = HEADER_BYTES; i < end; i++) {
                if (waiting.size == 0) {
                    putEmptyPacket(waiting, Math.max(SHORTEST_EMPTY, end - i));
                }
                int n = waiting.take();
                if (n >= Ring.BEGINS && first == NO_FIRST) {
                    first = i - HEADER_BYTES;
                }
                frame.add(n, 1);
            }
            return first;
        }

        private static void putEmptyPacket(Ring waiting, int length) {
            waiting.put(7 | Ring.BEGINS);
            waiting.put(255);
            waiting.put(3 << 6);
            waiting.put(0);
            waiting.put(length - 7 >>> 8);
            waiting.put(length - 7 & 255);
            for (int i = 6; i < length; i++) {
                waiting.put(FILLER);
            }
        }
    }

    /** What the spacecraft is at: its clock, mode, sensors and actuators, and every parameter. */
    private static final class Craft {
        private static final int SAFE_MODE = 0;
        private static final int MODE_EVENT = 1;
        private static final int[] SAFE_ACTUATORS = {0, 0, 0, 0, 50, 50, 100, 1};

        private final int patience;
        private final Receiver receiver;
        private final Gate gate;
        private final Timetable timetable;
        private final Events events;
        private final Reports reports;
        private final int[] wires;
        private int mode;
        private int clock;
        private int alarm;
        private int handled;
        private int failed;
        private int broken;

        Craft(int patience, Receiver receiver, Gate gate, Timetable timetable, Events events, Reports reports) {
            this.patience = patience;
            this.receiver = receiver;
            this.gate = gate;
            this.timetable = timetable;
            this.events = events;
            this.reports = reports;
            wires = new int[SENSORS + ACTUATORS];
            mode = 1;
            alarm = NONE;
        }

        int read(int k) {
            if (k >= 0 && k < wires.length) {
                return wires[k];
            }
            switch (k) {
                case 16: return mode;
                case 17: return clock;
                case 18: return gate.status;
                case 19: return gate.next;
                case 20: return timetable.size;
                case 21: return gate.queued;
                case 22: return receiver.putRight;
                case 23: return gate.refused;
                case 24: return gate.accepted;
                case 25: return handled;
                case 26: return failed;
                case 27: return reports.lost;
                case 28: return reports.packets;
                case 29: return reports.live.size;
                case 30: return events.lost;
                case 31: return broken;
                default: return 0;
            }
        }

        void actuate(int a, int b) {
            if (a >= 0 && a < ACTUATORS) {
                wires[SENSORS + a] = b;
            }
        }

        void changeMode(int wanted) {
            if (wanted == mode) {
                return;
            }
            mode = wanted;
            events.raise(MODE_EVENT, mode);
            for (int a = 0; mode == SAFE_MODE && a < ACTUATORS; a++) {
                wires[SENSORS + a] = SAFE_ACTUATORS[a];
            }
        }

        void watch(Table limits) {
            for (int i = 0; i < limits.size; i++) {
                if (limits.get(i, Table.ON) == 1) {
                    watchOne(limits, i);
                }
            }
        }

        private void watchOne(Table limits, int i) {
            int now = read(limits.get(i, Table.PARAMETER));
            if (now >= limits.get(i, Table.LOW) && now <= limits.get(i, Table.HIGH)) {
                limits.set(i, Table.COUNT, 0);
                return;
            }
            int count = limits.get(i, Table.COUNT) + 1;
            limits.set(i, Table.COUNT, count);
            if (count != limits.get(i, Table.TIMES)) {
                return;
            }
            broken++;
            events.raise(limits.get(i, Table.EVENT), now);
            if (limits.get(i, Table.LINK) == 1 && alarm == NONE) {
                alarm = clock + patience - 1;
            }
        }

        void heedAlarm() {
            if (alarm != NONE && alarm <= clock) {
                alarm = NONE;
                changeMode(SAFE_MODE);
            }
        }
    }

    /** Handles commands: finds their faults and failures, does them and reports on them. */
    private static final class Handler {
        private static final int NEW_FORM = 3 * 256 + 1;
        private static final int DROP_FORM = 3 * 256 + 3;
        private static final int FORM_ON = 3 * 256 + 5;
        private static final int FORM_OFF = 3 * 256 + 6;
        private static final int SEND_FORM = 3 * 256 + 27;
        private static final int TELL_EVENT = 5 * 256 + 5;
        private static final int HUSH_EVENT = 5 * 256 + 6;
        private static final int LOAD = 6 * 256 + 2;
        private static final int DUMP = 6 * 256 + 5;
        private static final int CHECK = 6 * 256 + 9;
        private static final int FUNCTION = 8 * 256 + 1;
        private static final int TIMETABLE_ON = 11 * 256 + 1;
        private static final int TIMETABLE_OFF = 11 * 256 + 2;
        private static final int EMPTY_TIMETABLE = 11 * 256 + 3;
        private static final int NEW_ENTRY = 11 * 256 + 4;
        private static final int DROP_ENTRIES = 11 * 256 + 5;
        private static final int SHIFT_ENTRIES = 11 * 256 + 15;
        private static final int TELL_ENTRIES = 11 * 256 + 17;
        private static final int LIMIT_ON = 12 * 256 + 1;
        private static final int LIMIT_OFF = 12 * 256 + 2;
        private static final int NEW_LIMIT = 12 * 256 + 5;
        private static final int DROP_LIMIT = 12 * 256 + 6;
        private static final int STORE_SERVICE = 15 * 256 + 1;
        private static final int UNSTORE_SERVICE = 15 * 256 + 2;
        private static final int RETRIEVE = 15 * 256 + 9;
        private static final int DROP_STORED = 15 * 256 + 11;
        private static final int STOP_RETRIEVAL = 15 * 256 + 12;
        private static final int TEST = 17 * 256 + 1;
        private static final int NEW_ACTION = 19 * 256 + 1;
        private static final int DROP_ACTION = 19 * 256 + 2;
        private static final int ACTION_ON = 19 * 256 + 4;
        private static final int ACTION_OFF = 19 * 256 + 5;

        private static final int SHORTEST = 13;
        private static final int DATA = 11;
        /** Three bytes, the last being n, and n more. */
        private static final int COUNTED = -1;
        /** Service and kind, then the DATA's length; below COUNTED it is the negative of the least one. */
        private static final int[] LENGTHS = {
            NEW_FORM, COUNTED, DROP_FORM, 1, FORM_ON, 1, FORM_OFF, 1, SEND_FORM, 1,
            TELL_EVENT, 1, HUSH_EVENT, 1,
            LOAD, COUNTED, DUMP, 3, CHECK, 4,
            FUNCTION, 6,
            TIMETABLE_ON, 0, TIMETABLE_OFF, 0, EMPTY_TIMETABLE, 0, NEW_ENTRY, -4 - SHORTEST,
            DROP_ENTRIES, 2, SHIFT_ENTRIES, 4, TELL_ENTRIES, 0,
            LIMIT_ON, 1, LIMIT_OFF, 1, NEW_LIMIT, 13, DROP_LIMIT, 1,
            STORE_SERVICE, 1, UNSTORE_SERVICE, 1, RETRIEVE, 8, DROP_STORED, 4, STOP_RETRIEVAL, 0,
            TEST, 0,
            NEW_ACTION, -1 - SHORTEST, DROP_ACTION, 1, ACTION_ON, 1, ACTION_OFF, 1,
        };

        private static final int SET_ACTUATOR = 1;
        private static final int SET_MODE = 2;
        private static final int RAISE_EVENT = 3;

        private final Craft craft;
        private final Gate gate;
        private final Timetable timetable;
        private final Events events;
        private final Reports reports;
        private final Table forms;
        private final Table limits;
        private final Row memory;
        /** A copy, for what is done may take the command's own place away. */
        private final Row command;

        Handler(Craft craft, Table forms, Table limits, Row memory) {
            this.craft = craft;
            gate = craft.gate;
            timetable = craft.timetable;
            events = craft.events;
            reports = craft.reports;
            this.forms = forms;
            this.limits = limits;
            this.memory = memory;
            command = new Row(LONGEST_PACKET);
        }

        void handleDueEntries() {
            for (int i = 0; i < Timetable.MOST && timetable.isDue(craft.clock); i++) {
                timetable.takeFirst(command);
                if (timetable.on) {
                    handle();
                }
            }
        }

        void handleQueue() {
            for (int i = 0; i < Gate.MOST_QUEUED && gate.takeOut(command); i++) {
                handle();
            }
            gate.stopWaiting();
        }

        void workEvents() {
            for (int i = 0; i < Events.MOST_RAISED && events.raised.size > 0; i++) {
                int e = events.raised.take();
                int b = events.raised.take();
                if (events.isTold(e)) {
                    sendEvent(e, b);
                }
                if (events.takeAction(e, command)) {
                    handle();
                }
            }
            events.loseRest();
        }

        private void sendEvent(int e, int b) {
            Row report = reports.begin(5, 1 + e / 8, craft.clock);
            report.add(e, 1);
            report.add(b, 4);
            reports.send();
        }

        void sendDueForms() {
            for (int i = 0; i < forms.size; i++) {
                int every = forms.get(i, Table.EVERY);
                if (forms.get(i, Table.ON) == 1 && every > 0 && craft.clock % every == 0) {
                    sendForm(i);
                }
            }
        }

        private void handle() {
            craft.handled++;
            int fault = faultOf(command, 0, command.length);
            if (fault != 0) {
                refuse(2, fault);
                return;
            }
            int wishes = command.number(6, 1);
            int code = command.number(7, 2);
            if ((wishes & 1) != 0) {
                answer(1);
            }
            int failure = failureOf(code);
            if (failure != 0) {
                refuse(4, failure);
                return;
            }
            if ((wishes & 2) != 0) {
                answer(3);
            }
            perform(code);
            if ((wishes & 8) != 0) {
                answer(7);
            }
        }

        private void answer(int kind) {
            reports.begin(1, kind, craft.clock).add(command.number(0, 4), 4);
            reports.send();
        }

        private void refuse(int kind, int reason) {
            craft.failed++;
            Row report = reports.begin(1, kind, craft.clock);
            report.add(command.number(0, 4), 4);
            report.add(reason, 2);
            reports.send();
        }

        private static int faultOf(Row row, int from, int length) {
            if (length < SHORTEST || length != row.number(from + 4, 2) + 7) {
                return 1;
            }
            if (row.check(from, length) != 0) {
                return 2;
            }
            int head = row.number(from, 2);
            if (head >>> 11 != 3 || row.number(from + 2, 1) >>> 6 != 3) {
                return 3;
            }
            if ((head & 2047) != PACKET_NUMBER) {
                return 4;
            }
            if (row.number(from + 6, 1) >>> 4 != 2) {
                return 5;
            }
            return kindFaultOf(row, from, length - SHORTEST);
        }

        private static int kindFaultOf(Row row, int from, int dataLength) {
            int code = row.number(from + 7, 2);
            for (int i = 0; i + 1 < LENGTHS.length; i += 2) {
                if (LENGTHS[i] == code) {
                    int n = row.number(from + DATA + 2, 1);
                    return isRightLength(LENGTHS[i + 1], dataLength, n) ? 0 : 7;
                }
            }
            return 6;
        }

        private static boolean isRightLength(int wanted, int length, int n) {
            if (wanted == COUNTED) {
                return length >= 3 && length == 3 + n;
            }
            return wanted < COUNTED ? length >= -wanted : length == wanted;
        }

        private int data(int from, int count) {
            return command.number(DATA + from, count);
        }

        private int dataLength() {
            return command.length - SHORTEST;
        }

        private int failureOf(int code) {
            switch (code) {
                case NEW_FORM: return newFormFailure();
                case DROP_FORM: return lineFailure(forms, 14, true);
                case FORM_ON:
                case FORM_OFF:
                case SEND_FORM: return lineFailure(forms, 14, false);
                case TELL_EVENT:
                case HUSH_EVENT: return Events.isThere(data(0, 1)) ? 0 : 16;
                case LOAD:
                case DUMP: return placeFailure(data(2, 1));
                case CHECK: return placeFailure(data(2, 2));
                case FUNCTION: return functionFailure(data(0, 1), data(1, 1));
                case NEW_ENTRY: return newEntryFailure();
                case DROP_ENTRIES: return timetable.has(data(0, 2) & 16383) ? 0 : 23;
                case SHIFT_ENTRIES: return timetable.canShift(data(0, 4), craft.clock) ? 0 : 24;
                case LIMIT_ON:
                case LIMIT_OFF: return lineFailure(limits, 27, false);
                case NEW_LIMIT: return newLimitFailure();
                case DROP_LIMIT: return lineFailure(limits, 27, true);
                case STORE_SERVICE:
                case UNSTORE_SERVICE: return Reports.isService(data(0, 1)) ? 0 : 32;
                case RETRIEVE: return reports.retrieving ? 28 : 0;
                case STOP_RETRIEVAL: return reports.retrieving ? 0 : 28;
                case NEW_ACTION: return newActionFailure(data(0, 1));
                case DROP_ACTION: return actionFailure(data(0, 1), true);
                case ACTION_ON:
                case ACTION_OFF: return actionFailure(data(0, 1), false);
                default: return 0;
            }
        }

        private int newFormFailure() {
            int count = data(2, 1);
            if (data(1, 1) == 0 || count == 0 || count > Table.MOST_LISTED) {
                return 13;
            }
            for (int i = 0; i < count; i++) {
                if (data(3 + i, 1) >= PARAMETERS) {
                    return 13;
                }
            }
            return placeInTable(forms, 11, 12);
        }

        private int placeInTable(Table table, int isThere, int isFull) {
            if (table.find(data(0, 1)) != NONE) {
                return isThere;
            }
            return table.isFull() ? isFull : 0;
        }

        private int lineFailure(Table table, int isMissing, boolean mustBeOff) {
            int line = table.find(data(0, 1));
            if (line == NONE) {
                return isMissing;
            }
            return mustBeOff && table.get(line, Table.ON) == 1 ? 15 : 0;
        }

        private int placeFailure(int count) {
            return count == 0 || data(0, 2) + count > MEMORY_BYTES ? 17 : 0;
        }

        private int functionFailure(int function, int a) {
            switch (function) {
                case SET_ACTUATOR:
                    if (a >= ACTUATORS) {
                        return 18;
                    }
                    return craft.mode == Craft.SAFE_MODE ? 19 : 0;
                case SET_MODE:
                    if (a > 2) {
                        return 18;
                    }
                    return craft.mode == Craft.SAFE_MODE && a == 2 ? 19 : 0;
                case RAISE_EVENT:
                    return Events.isThere(a) ? 0 : 18;
                default:
                    return 18;
            }
        }

        private int newEntryFailure() {
            if (faultOf(command, DATA + 4, dataLength() - 4) != 0) {
                return 22;
            }
            if (data(0, 4) <= craft.clock) {
                return 20;
            }
            return timetable.isFull() ? 21 : 0;
        }

        private int newLimitFailure() {
            if (data(2, 1) == 0 || data(3, 4) > data(7, 4) || data(12, 1) > 1) {
                return 13;
            }
            if (data(1, 1) >= PARAMETERS || !Events.isThere(data(11, 1))) {
                return 13;
            }
            return placeInTable(limits, 25, 26);
        }

        private int newActionFailure(int e) {
            if (!Events.isThere(e)) {
                return 16;
            }
            if (faultOf(command, DATA + 1, dataLength() - 1) != 0) {
                return 22;
            }
            return events.hasAction[e] ? 29 : 0;
        }

        private int actionFailure(int e, boolean mustBeOff) {
            if (!Events.isThere(e)) {
                return 16;
            }
            if (!events.hasAction[e]) {
                return 30;
            }
            return mustBeOff && events.actionOn[e] ? 15 : 0;
        }

        private void perform(int code) {
            switch (code) {
                case NEW_FORM: addForm(); break;
                case DROP_FORM: forms.remove(forms.find(data(0, 1))); break;
                case FORM_ON: forms.set(forms.find(data(0, 1)), Table.ON, 1); break;
                case FORM_OFF: forms.set(forms.find(data(0, 1)), Table.ON, 0); break;
                case SEND_FORM: sendForm(forms.find(data(0, 1))); break;
                case TELL_EVENT: setSilent(data(0, 1), false); break;
                case HUSH_EVENT: setSilent(data(0, 1), true); break;
                case LOAD: load(); break;
                case DUMP: dump(); break;
                case CHECK: sendMemoryCheck(); break;
                case FUNCTION: performFunction(data(0, 1), data(1, 1), data(2, 4)); break;
                case TIMETABLE_ON: timetable.on = true; break;
                case TIMETABLE_OFF: timetable.on = false; break;
                case EMPTY_TIMETABLE: timetable.size = 0; timetable.on = false; break;
                case NEW_ENTRY: timetable.add(data(0, 4), command, DATA + 4, dataLength() - 4); break;
                case DROP_ENTRIES: timetable.removeAll(data(0, 2) & 16383); break;
                case SHIFT_ENTRIES: timetable.shift(data(0, 4)); break;
                case TELL_ENTRIES: tellEntries(); break;
                case LIMIT_ON: switchLimit(limits.find(data(0, 1)), 1); break;
                case LIMIT_OFF: switchLimit(limits.find(data(0, 1)), 0); break;
                case NEW_LIMIT: addLimit(); break;
                case DROP_LIMIT: limits.remove(limits.find(data(0, 1))); break;
                case STORE_SERVICE: setStored(data(0, 1), true); break;
                case UNSTORE_SERVICE: setStored(data(0, 1), false); break;
                case RETRIEVE: reports.beginRetrieval(data(0, 4), data(4, 4)); break;
                case DROP_STORED: reports.dropUpTo(data(0, 4)); break;
                case STOP_RETRIEVAL: reports.retrieving = false; break;
                case TEST: reports.begin(17, 2, craft.clock); reports.send(); break;
                case NEW_ACTION: addAction(data(0, 1)); break;
                case DROP_ACTION: dropAction(data(0, 1)); break;
                case ACTION_ON: switchAction(data(0, 1), true); break;
                case ACTION_OFF: switchAction(data(0, 1), false); break;
                default: break;
            }
        }

        private void addForm() {
            int line = forms.add(data(0, 1));
            forms.set(line, Table.EVERY, data(1, 1));
            int count = Math.min(data(2, 1), Table.MOST_LISTED);
            forms.set(line, Table.LISTED, count);
            for (int i = 0; i < count; i++) {
                forms.set(line, Table.LIST + i, data(3 + i, 1));
            }
        }

        private void sendForm(int line) {
            Row report = reports.begin(3, 25, craft.clock);
            report.add(forms.get(line, Table.ID), 1);
            int count = forms.get(line, Table.LISTED);
            for (int i = 0; i < count; i++) {
                report.add(craft.read(forms.get(line, Table.LIST + i)), 4);
            }
            reports.send();
        }

        private void setSilent(int e, boolean silent) {
            if (Events.isThere(e)) {
                events.silent[e] = silent;
            }
        }

        private void load() {
            int count = data(2, 1);
            for (int i = 0; i < count; i++) {
                memory.replace(data(0, 2) + i, data(3 + i, 1), 1);
            }
        }

        private void dump() {
            Row report = reports.begin(6, 6, craft.clock);
            report.add(data(0, 3), 3);
            report.addPart(memory, data(0, 2), data(2, 1));
            reports.send();
        }

        private void sendMemoryCheck() {
            Row report = reports.begin(6, 10, craft.clock);
            report.add(data(0, 4), 4);
            report.add(memory.check(data(0, 2), data(2, 2)), 2);
            reports.send();
        }

        private void performFunction(int function, int a, int b) {
            if (function == SET_ACTUATOR) {
                craft.actuate(a, b);
            } else if (function == SET_MODE) {
                craft.changeMode(a);
            } else if (function == RAISE_EVENT) {
                events.raise(a, b);
            }
        }

        private void tellEntries() {
            timetable.tell(reports.begin(11, 13, craft.clock));
            reports.send();
        }

        private void switchLimit(int line, int on) {
            limits.set(line, Table.ON, on);
            limits.set(line, Table.COUNT, 0);
        }

        private void addLimit() {
            int line = limits.add(data(0, 1));
            limits.set(line, Table.PARAMETER, data(1, 1));
            limits.set(line, Table.TIMES, data(2, 1));
            limits.set(line, Table.LOW, data(3, 4));
            limits.set(line, Table.HIGH, data(7, 4));
            limits.set(line, Table.EVENT, data(11, 1));
            limits.set(line, Table.LINK, data(12, 1));
        }

        private void setStored(int service, boolean stored) {
            if (Reports.isService(service)) {
                reports.stored[service] = stored;
            }
        }

        private void addAction(int e) {
            if (Events.isThere(e)) {
                events.actions[e].become(command, DATA + 1, dataLength() - 1);
                events.hasAction[e] = true;
                events.actionOn[e] = false;
            }
        }

        private void dropAction(int e) {
            if (Events.isThere(e)) {
                events.hasAction[e] = false;
            }
        }

        private void switchAction(int e, boolean on) {
            if (Events.isThere(e)) {
                events.actionOn[e] = on;
            }
        }
    }
}
