import java.util.Arrays;
import java.util.stream.IntStream;

/** Writes commands, frames and blocks as the ground sends them, in the plainest way the document tells. */
final class Ground {
    static final int BYPASS = 1;
    static final int CONTROL = 2;
    static final int[] MARK = {0xEB, 0x90};
    static final int[] WRONG_BLOCK = {0xC5, 0xC5, 0xC5, 0xC5, 0xC5, 0xC5, 0xC5, 0x79};

    private Ground() {
    }

    static int check(int... bytes) {
        int c = 65535;
        for (int b : bytes) {
            c ^= b * 256;
            for (int i = 0; i < 8; i++) {
                c *= 2;
                if (c >= 65536) {
                    c ^= 69665;
                }
            }
        }
        return c;
    }

    static int[] join(int[]... parts) {
        return Arrays.stream(parts).flatMapToInt(Arrays::stream).toArray();
    }

    static int[] bytes(int n, int count) {
        return IntStream.range(0, count).map(i -> n >>> 8 * (count - 1 - i) & 255).toArray();
    }

    static int[] int4(int n) {
        return bytes(n, 4);
    }

    static int[] row(int... bytes) {
        return bytes;
    }

    static int[] withCheck(int... bytes) {
        return join(bytes, bytes(check(bytes), 2));
    }

    /** The packet again, with a CHECK that fits what was changed in it. */
    static int[] rechecked(int... packet) {
        return withCheck(Arrays.copyOf(packet, packet.length - 2));
    }

    static int[] command(int number, int wishes, int service, int kind, int... data) {
        int[] head = join(bytes(0x1800 | 42, 2), bytes(0xC000 | number, 2), bytes(data.length + 6, 2));
        return withCheck(join(head, row(0x20 | wishes, service, kind, 0xAB, 0xCD), data));
    }

    static int[] frame(int flags, int number, int... body) {
        int first = ((flags & BYPASS) != 0 ? 0x20 : 0) | ((flags & CONTROL) != 0 ? 0x10 : 0);
        return withCheck(join(row(first | 346 >>> 8, 346 & 255), bytes(body.length + 6, 2), row(number), body));
    }

    /** Blocks of the bytes, filled up with 85, each with its seven turned bits and a 64th. */
    static int[] blocks(int... bytes) {
        int[] all = {};
        for (int at = 0; at < bytes.length; at += 7) {
            int[] seven = new int[7];
            for (int i = 0; i < 7; i++) {
                seven[i] = at + i < bytes.length ? bytes[at + i] : 85;
            }
            all = join(all, seven, row(lastByte(seven)));
        }
        return all;
    }

    private static int lastByte(int[] seven) {
        boolean[] row = new boolean[63];
        for (int i = 0; i < 56; i++) {
            row[i] = (seven[i / 8] >>> 7 - i % 8 & 1) != 0;
        }
        for (int i = 0; i < 56; i++) {
            if (row[i]) {
                for (int power : new int[] {7, 6, 2, 0}) {
                    row[i + 7 - power] ^= true;
                }
            }
        }
        int last = 0;
        for (int i = 56; i < 63; i++) {
            last = last * 2 + (row[i] ? 0 : 1);
        }
        return last * 2;
    }

    static int[] transmission(int... frame) {
        return join(MARK, blocks(frame), WRONG_BLOCK);
    }

    static int[] turned(int[] bytes, int... bits) {
        int[] turned = bytes.clone();
        for (int bit : bits) {
            turned[bit / 8] ^= 128 >>> bit % 8;
        }
        return turned;
    }

    static void load(Box box, int... bytes) {
        int length = 0;
        for (int at = 0; at < bytes.length; at += 20) {
            int[] five = new int[5];
            for (int i = 0; i < 20 && at + i < bytes.length; i++) {
                five[i / 4] |= bytes[at + i] << 8 * (3 - i % 4);
            }
            if (!box.feed(five[0], five[1], five[2], five[3], five[4])) {
                throw new IllegalStateException("no room on the tape");
            }
            length = Math.min(at + 20, bytes.length);
        }
        if (!box.end(length)) {
            throw new IllegalStateException("the tape has too little");
        }
    }

    static int up(Box box, int... bytes) {
        load(box, bytes);
        return box.uplink();
    }
}
