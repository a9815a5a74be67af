import java.util.NoSuchElementException;
import java.util.Random;

/** Holds the box against the mirror in long runs of all sorts of calls; the seeds are fixed. */
public final class MirrorTest {
    private static final int RUNS = 500;
    /** Steps end here, far enough from the 512 calls of an object for the longest step and for much asking. */
    private static final int MOST_CHANGES = 330;
    /** Stands for the exception: no int is that large. */
    private static final long NOTHING = Long.MAX_VALUE;
    private static final int[] KINDS = {3, 1, 3, 1, 3, 3, 3, 5, 3, 5, 3, 6, 3, 27, 5, 5, 5, 6, 6, 2, 6, 2, 6, 5, 6, 9, 8, 1,
        8, 1, 8, 1, 11, 1, 11, 1, 11, 2, 11, 3, 11, 4, 11, 4, 11, 4, 11, 4, 11, 5, 11, 15, 11, 17, 12, 1, 12, 1, 12, 2,
        12, 5, 12, 5, 12, 5, 12, 6, 15, 1, 15, 1, 15, 2, 15, 9, 15, 9, 15, 11, 15, 12, 17, 1, 19, 1, 19, 1, 19, 2, 19, 4,
        19, 4, 19, 5};
    private static final int[] SERVICES_THAT_REPORT = {1, 3, 5, 6, 11, 17};

    private interface Call {
        int answer();
    }

    private final Random random;
    private final Box box;
    private final Mirror mirror;
    private final int length;
    private final int frames;
    private final int lost;
    private int now;
    private int turn;
    private String latest = "";

    private MirrorTest(long seed) {
        random = new Random(seed);
        int entries = any(0, 10) == 0 ? 70 : any(1, 6);
        int askedLength = any(60, 260);
        int askedFrames = any(0, 5);
        length = Math.max(64, Math.min(256, askedLength));
        frames = Math.max(1, Math.min(4, askedFrames));
        int patience = any(0, 6);
        int store = any(0, 3) == 0 ? any(60, 400) : any(400, 17000);
        lost = any(0, 3) == 0 ? 3 : 30;
        box = new Box(entries, askedLength, askedFrames, patience, store);
        mirror = new Mirror(entries, askedLength, askedFrames, patience, store);
    }

    public static void main(String[] args) {
        int runs = args.length > 0 ? Integer.parseInt(args[0]) : RUNS;
        for (int seed = 1; seed <= runs; seed++) {
            MirrorTest run = new MirrorTest(seed);
            String difference = null;
            while (difference == null && run.box.changes() < MOST_CHANGES) {
                difference = firstOf(run.step(), run.oneOf(12) ? run.compareAll() : run.compareSome());
            }
            difference = firstOf(difference, run.compareAll());
            if (difference != null) {
                System.out.println("seed " + seed + ", " + run.latest + " at " + run.now + ": " + difference);
                System.exit(1);
            }
        }
        System.out.println("all as due");
    }

    private int any(int low, int high) {
        return low + random.nextInt(high - low + 1);
    }

    private boolean oneOf(int n) {
        return random.nextInt(n) == 0;
    }

    private int pick(int... some) {
        return some[random.nextInt(some.length)];
    }

    private String step() {
        int what = any(0, 19);
        if (what < 8) {
            return uplink(transmissions());
        }
        if (what < 16) {
            latest = "tick";
            now++;
            return differ("tick", box::tick, mirror::tick);
        }
        if (what < 19) {
            int k = any(-1, 8);
            int v = oneOf(8) ? random.nextInt() : any(-3, 12);
            latest = "sense " + k + " " + v;
            return differ("sense", () -> box.sense(k, v) ? 1 : 0, () -> mirror.sense(k, v) ? 1 : 0);
        }
        int n = any(-1, 40);
        latest = "feed, end " + n;
        int[] f = {random.nextInt(), random.nextInt(), random.nextInt(), random.nextInt(), random.nextInt()};
        return firstOf(
            differ("feed", () -> box.feed(f[0], f[1], f[2], f[3], f[4]) ? 1 : 0, () -> mirror.feed(f) ? 1 : 0),
            differ("end", () -> box.end(n) ? 1 : 0, () -> mirror.end(n) ? 1 : 0),
            differ("uplink", box::uplink, mirror::uplink));
    }

    private int[] transmissions() {
        int[] all = {};
        for (int i = any(1, 6); i > 0; i--) {
            all = Ground.join(all, transmission());
        }
        return all;
    }

    private int[] transmission() {
        int[] body = oneOf(lost) ? bytes(any(1, 20)) : command(0);
        if (oneOf(lost)) {
            body[any(0, body.length - 1)] ^= 1 << any(0, 7);
            body = body.length > 2 && oneOf(2) ? Ground.rechecked(body) : body;
        }
        int flags = oneOf(2) ? 0 : Ground.BYPASS;
        int number = turn;
        if (oneOf(12)) {
            flags = Ground.CONTROL | (oneOf(6) ? 0 : Ground.BYPASS);
            body = oneOf(2) ? Ground.row(oneOf(5) ? 1 : 0) : Ground.row(130, oneOf(6) ? 1 : 0, box.value(19) + any(-1, 1) & 255);
        }
        if (flags == 0) {
            number = oneOf(15) ? any(0, 255) : oneOf(8) ? box.value(19) + any(-3, 12) & 255 : turn;
            turn = number + 1 & 255;
        }
        if (oneOf(6)) {
            turn = box.value(19);
        }
        int[] frame = Ground.frame(flags, number, body);
        if (oneOf(40)) {
            frame[any(0, 4)] ^= 1 << any(0, 7);
            frame = Ground.rechecked(frame);
        }
        if (frame.length > 259) {
            return Ground.transmission(Ground.row(1, 2, 3));
        }
        int[] sent = Ground.transmission(frame);
        for (int i = oneOf(3) ? any(1, 2) : 0; i > 0; i--) {
            sent = Ground.turned(sent, any(0, 8 * sent.length - 1));
        }
        return oneOf(20) ? java.util.Arrays.copyOf(sent, any(0, sent.length)) : sent;
    }

    private int[] bytes(int count) {
        return random.ints(count, 0, 256).toArray();
    }

    private int[] command(int depth) {
        int kind = random.nextInt(KINDS.length / 2);
        int service = KINDS[2 * kind];
        int[] data = data(service, KINDS[2 * kind + 1], depth);
        if (oneOf(40)) {
            data = oneOf(2) ? Ground.join(data, Ground.row(0)) : java.util.Arrays.copyOf(data, data.length / 2);
        }
        return Ground.command(any(0, 5), pick(0, 0, 0, 1, 2, 4, 8, 9, 15, 10), service,
            oneOf(60) ? any(0, 30) : KINDS[2 * kind + 1], data);
    }

    private int[] data(int service, int kind, int depth) {
        int id = oneOf(10) ? any(0, 255) : any(1, 20);
        int e = oneOf(30) ? any(30, 34) : any(0, 4);
        switch (service * 100 + kind) {
            case 301:
                int n = oneOf(12) ? any(0, 9) : any(1, 8);
                int[] listed = random.ints(n, 0, oneOf(15) ? 33 : 32).toArray();
                return Ground.join(Ground.row(any(1, 10), oneOf(20) ? 0 : any(1, 4), n), listed);
            case 303, 305, 306, 327:
                return Ground.row(any(1, 10));
            case 505, 506, 1902, 1904, 1905:
                return Ground.row(e);
            case 602:
                int size = oneOf(20) ? 0 : any(1, oneOf(3) ? 230 : 8);
                return Ground.join(Ground.bytes(place(), 2), Ground.row(size), bytes(size));
            case 605:
                return Ground.join(Ground.bytes(place(), 2), Ground.row(oneOf(20) ? 0 : any(1, 255)));
            case 609:
                return Ground.join(Ground.bytes(oneOf(2) ? 0 : place(), 2), Ground.bytes(pick(0, 1, 30, 4095, 4096, 4097), 2));
            case 801:
                int f = oneOf(25) ? any(0, 5) : any(1, 3);
                int a = oneOf(20) ? any(0, 33) : f == 2 ? any(0, 2) : any(0, 4);
                return Ground.join(Ground.row(f, a), Ground.int4(any(-5, 99)));
            case 1104:
                return Ground.join(Ground.int4(time()), inner(depth));
            case 1105:
                return Ground.bytes(any(0, 5) + any(0, 3) * 16384, 2);
            case 1115:
                return Ground.int4(oneOf(8) ? pick(Integer.MAX_VALUE, Integer.MIN_VALUE) : any(-2, 4));
            case 1201, 1202, 1206:
                return Ground.row(id);
            case 1205:
                int low = oneOf(12) ? Integer.MIN_VALUE : any(-2, 8);
                return Ground.join(Ground.row(id, oneOf(20) ? any(30, 33) : any(0, 31), oneOf(20) ? 0 : any(1, 3)),
                    Ground.int4(low), Ground.int4(oneOf(20) ? low - 1 : low + any(0, 9)), Ground.row(e, oneOf(20) ? 2 : any(0, 1)));
            case 1501, 1502:
                return Ground.row(oneOf(10) ? any(30, 33) : pick(SERVICES_THAT_REPORT));
            case 1509:
                int from = any(-2, now + 2);
                return Ground.join(Ground.int4(from), Ground.int4(oneOf(3) ? Integer.MAX_VALUE : from + any(-1, now + 1)));
            case 1511:
                return Ground.int4(oneOf(10) ? Integer.MAX_VALUE : any(-1, now));
            case 1901:
                return Ground.join(Ground.row(e), inner(depth));
            default:
                return new int[0];
        }
    }

    private int place() {
        return oneOf(5) ? any(4000, 4100) : any(0, 60);
    }

    private int time() {
        return oneOf(20) ? pick(Integer.MAX_VALUE, Integer.MIN_VALUE, -1, 0) : now + any(0, 8);
    }

    private int[] inner(int depth) {
        int[] command = depth < 2 ? command(depth + 1) : Ground.command(any(0, 5), any(0, 15), 17, 1);
        if (oneOf(25)) {
            command[any(0, command.length - 1)] ^= 1 << any(0, 7);
        }
        return command;
    }

    private String uplink(int[] bytes) {
        latest = "uplink of " + bytes.length;
        for (int at = 0; at < bytes.length; at += 3980) {
            int[] part = java.util.Arrays.copyOfRange(bytes, at, Math.min(bytes.length, at + 3980));
            Ground.load(box, part);
            mirror.become(part);
            String difference = differ("uplink", box::uplink, mirror::uplink);
            if (difference != null) {
                return difference;
            }
        }
        return null;
    }

    private static String firstOf(String... differences) {
        for (String difference : differences) {
            if (difference != null) {
                return difference;
            }
        }
        return null;
    }

    /** The CHECK of a frame stands for the rest of it, so that few calls tell much. */
    private String compareSome() {
        int k = any(-1, 32);
        int what = any(-1, 6);
        int id = any(0, 20);
        int i = any(-1, 6);
        int place = oneOf(2) ? any(0, 80) : any(4000, 4096);
        String difference = firstOf(differ("word", box::word, mirror::word),
            differ("value(" + k + ")", () -> box.value(k), () -> mirror.value(k)),
            differ("state(" + what + ")", () -> box.state(what), () -> mirror.state(what)),
            differ("limit(" + id + ")", () -> box.limit(id, k & 1), () -> mirror.limit(id, k & 1)),
            differ("entry(" + i + ")", () -> box.entry(i, id % 4), () -> mirror.entry(i, id % 4)),
            differ("memory(" + place + ")", () -> box.memory(place), () -> mirror.memory(place)));
        for (int f = 0; f < frames && difference == null && now > 0; f++) {
            int frame = f;
            int any = any(0, length - 1);
            difference = firstOf(differ("down", () -> box.down(frame, length - 2), () -> mirror.down(frame, length - 2)),
                differ("down", () -> box.down(frame, length - 1), () -> mirror.down(frame, length - 1)),
                differ("down", () -> box.down(frame, any), () -> mirror.down(frame, any)));
        }
        return difference;
    }

    private String compareAll() {
        return firstOf(differ("word", box::word, mirror::word),
            differAnywhere("value", 0, 31, 1, (k, none) -> box.value(k), (k, none) -> mirror.value(k)),
            differAnywhere("state", 0, 5, 1, (k, none) -> box.state(k), (k, none) -> mirror.state(k)),
            differAnywhere("limit", 0, 21, 2, box::limit, mirror::limit),
            differAnywhere("entry", 0, box.value(20) - 1, 3, box::entry, mirror::entry),
            differAnywhere("memory", 0, 80, 1, (k, none) -> box.memory(k), (k, none) -> mirror.memory(k)),
            differAnywhere("memory", 4050, 4096, 1, (k, none) -> box.memory(k), (k, none) -> mirror.memory(k)),
            now > 0 ? differAnywhere("down", 0, frames - 1, length, box::down, mirror::down) : null);
    }

    private interface Asking {
        int answer(int a, int b);
    }

    /** From one before the first to one behind the last; outside only one each, for exceptions are slow. */
    private static String differAnywhere(String what, int low, int high, int width, Asking got, Asking want) {
        for (int i = low - 1; i <= high + 1; i++) {
            boolean inside = i >= low && i <= high;
            for (int j = inside && width > 1 ? -1 : 0; j < (inside ? width + 1 : 1); j++) {
                int a = i;
                int b = j;
                long g = answer(() -> got.answer(a, b));
                long w = answer(() -> want.answer(a, b));
                if (g != w) {
                    return what + "(" + a + ", " + b + ") answered " + tell(g) + ", due is " + tell(w);
                }
            }
        }
        return null;
    }

    private static String differ(String what, Call got, Call want) {
        long g = answer(got);
        long w = answer(want);
        return g == w ? null : what + " answered " + tell(g) + ", due is " + tell(w);
    }

    private static long answer(Call call) {
        try {
            return call.answer();
        } catch (NoSuchElementException none) {
            return NOTHING;
        }
    }

    private static String tell(long answer) {
        return answer == NOTHING ? "NoSuchElementException" : Long.toString(answer);
    }
}
