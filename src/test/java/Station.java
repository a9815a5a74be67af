import java.util.ArrayList;
import java.util.Arrays;
import java.util.List;

/** A ground station with one box: sends commands beside the turn, and takes apart what comes down. */
final class Station {
    /** A packet that came down. */
    record Report(int channel, int[] bytes) {
        int service() {
            return bytes[7];
        }

        int kind() {
            return bytes[8];
        }

        int number() {
            return (bytes[2] & 63) * 256 + bytes[3];
        }

        int series() {
            return bytes[9] * 256 + bytes[10];
        }

        int clock() {
            return bytes[13] << 24 | bytes[14] << 16 | bytes[15] << 8 | bytes[16];
        }

        int[] data() {
            return Arrays.copyOfRange(bytes, 17, bytes.length - 2);
        }

        boolean isEmpty() {
            return bytes[0] == 7 && bytes[1] == 255;
        }
    }

    final Box box;
    final int length;
    final int frames;
    final List<Report> reports = new ArrayList<>();
    final List<Report> replay = new ArrayList<>();
    final List<Report> empties = new ArrayList<>();
    private final List<List<Integer>> streams = List.of(new ArrayList<>(), new ArrayList<>());
    private int lastNumber = 0;

    Station(int entries, int length, int frames, int patience, int store) {
        this.length = length;
        this.frames = frames;
        box = new Box(entries, length, frames, patience, store);
    }

    /** One whose frames are so many that all reports of a tick go down with it. */
    Station() {
        this(64, 256, 4, 5, 16384);
    }

    int sendPacket(int... packet) {
        return Ground.up(box, Ground.transmission(Ground.frame(Ground.BYPASS, 0, packet)));
    }

    /** Without wishes, so that what is reported is what the command does. */
    void order(int service, int kind, int... data) {
        lastNumber++;
        if (sendPacket(Ground.command(lastNumber, 0, service, kind, data)) != 1) {
            throw new IllegalStateException("the command was not accepted");
        }
    }

    /** Sends it, goes on by a tick, and tells its FAULT or FAILURE, or 0. */
    int tryOut(int service, int kind, int... data) {
        order(service, kind, data);
        tick();
        for (Report r : reports) {
            if (r.service() == 1 && (r.kind() == 2 || r.kind() == 4)) {
                return r.data()[4] * 256 + r.data()[5];
            }
        }
        return 0;
    }

    int tick() {
        reports.clear();
        replay.clear();
        empties.clear();
        int busy = box.tick();
        for (int f = 0; f < frames; f++) {
            int channel = box.down(f, 1) >>> 1 & 7;
            for (int k = 6; channel != 7 && k < length - 6; k++) {
                streams.get(channel).add(box.down(f, k));
            }
        }
        takeApart(0, reports);
        takeApart(1, replay);
        return busy;
    }

    private void takeApart(int channel, List<Report> into) {
        List<Integer> stream = streams.get(channel);
        while (stream.size() >= 6) {
            int size = stream.get(4) * 256 + stream.get(5) + 7;
            if (stream.size() < size) {
                return;
            }
            List<Integer> head = stream.subList(0, size);
            Report report = new Report(channel, head.stream().mapToInt(Integer::intValue).toArray());
            (report.isEmpty() ? empties : into).add(report);
            head.clear();
        }
    }

    /** The reports of the latest tick, told like "1 7, 17 2". */
    String told() {
        return tell(reports);
    }

    String replayed() {
        return tell(replay);
    }

    private static String tell(List<Report> some) {
        List<String> words = new ArrayList<>();
        for (Report r : some) {
            words.add(r.service() + " " + r.kind());
        }
        return String.join(", ", words);
    }

    int[] frame(int f) {
        int[] bytes = new int[length];
        for (int k = 0; k < length; k++) {
            bytes[k] = box.down(f, k);
        }
        return bytes;
    }
}
