import java.lang.reflect.Member;
import java.lang.reflect.Modifier;
import java.util.Arrays;
import java.util.stream.Collectors;

/** Promise 1: a new object, with the nearest of what was asked for; and the face of the class. */
public final class Promise01NewObjectTest {
    private static final Expect expect = new Expect();

    public static void main(String[] args) {
        everythingIsAtItsBeginning();
        frameLengthIsTheNearest();
        framesATickAreTheNearest();
        entriesAreTheNearest();
        patienceIsTheNearest();
        storeIsTheNearest();
        faceIsTheDocuments();
        expect.end();
    }

    private static void everythingIsAtItsBeginning() {
        Box box = new Box(4, 100, 2, 3, 500);
        for (int k = 0; k < 32; k++) {
            expect.same("value(" + k + ")", box.value(k), k == 16 || k == 18 ? 1 : 0);
        }
        expect.same("word", box.word(), 1 << 24);
        for (int k = 0; k < 4096; k++) {
            expect.same("memory(" + k + ")", box.memory(k), 0);
        }
        for (int what = 0; what < 6; what++) {
            expect.same("state(" + what + ")", box.state(what), what == 1 ? OrbitBox.NONE : 0);
        }
        for (int id = 0; id < 256; id++) {
            expect.same("limit", box.limit(id, 0), OrbitBox.NONE);
        }
        expect.nothingThere("entry", () -> box.entry(0, 0));
        expect.nothingThere("down", () -> box.down(0, 0));
        expect.same("NONE", OrbitBox.NONE, -1);
        expect.same("uplink of nothing", box.uplink(), 0);
    }

    private static void frameLengthIsTheNearest() {
        int[][] askedAndDue = {{Integer.MIN_VALUE, 64}, {63, 64}, {64, 64}, {65, 65}, {255, 255}, {256, 256},
            {257, 256}, {Integer.MAX_VALUE, 256}};
        for (int[] row : askedAndDue) {
            Box box = new Box(1, row[0], 1, 1, 64);
            box.tick();
            int last = row[1] - 1;
            expect.yes("the last byte is there, length " + row[0], box.down(0, last) >= 0);
            expect.nothingThere("a byte more, length " + row[0], () -> box.down(0, last + 1));
        }
    }

    private static void framesATickAreTheNearest() {
        int[][] askedAndDue = {{-5, 1}, {0, 1}, {1, 1}, {2, 2}, {3, 3}, {4, 4}, {5, 4}, {Integer.MAX_VALUE, 4}};
        for (int[] row : askedAndDue) {
            Box box = new Box(1, 64, row[0], 1, 64);
            box.tick();
            expect.yes("the last frame is there, frames " + row[0], box.down(row[1] - 1, 0) == 21);
            expect.nothingThere("a frame more, frames " + row[0], () -> box.down(row[1], 0));
        }
    }

    private static void entriesAreTheNearest() {
        int[][] askedAndDue = {{Integer.MIN_VALUE, 1}, {0, 1}, {1, 1}, {2, 2}, {63, 63}, {64, 64}, {65, 64},
            {Integer.MAX_VALUE, 64}};
        for (int[] row : askedAndDue) {
            Station s = new Station(row[0], 256, 4, 1, 64);
            for (int i = 0; i < 66; i++) {
                s.order(11, 4, Ground.join(Ground.int4(1000), Ground.command(i, 0, 17, 1)));
                s.tick();
            }
            expect.same("entries, asked for " + row[0], s.box.value(20), row[1]);
        }
    }

    private static void patienceIsTheNearest() {
        int[][] askedAndDue = {{-1, 1}, {0, 1}, {1, 1}, {2, 2}, {99, 99}, {100, 100}, {101, 100},
            {Integer.MAX_VALUE, 100}};
        for (int[] row : askedAndDue) {
            Station s = new Station(1, 256, 4, row[0], 64);
            s.order(12, 5, Ground.join(Ground.row(1, 0, 1), Ground.int4(1), Ground.int4(2), Ground.row(3, 1)));
            s.order(12, 1, 1);
            for (int t = 1; t < row[1]; t++) {
                s.tick();
                expect.same("mode at " + t + ", patience " + row[0], s.box.value(16), 1);
                expect.same("alarm at " + t + ", patience " + row[0], s.box.state(1), row[1]);
            }
            s.tick();
            expect.same("mode at the alarm, patience " + row[0], s.box.value(16), 0);
            expect.same("no alarm any more, patience " + row[0], s.box.state(1), OrbitBox.NONE);
        }
    }

    private static void storeIsTheNearest() {
        // Event 2 raises itself 64 times a tick, and the report of each has 24 bytes.
        int[] raise = Ground.join(Ground.row(3, 2), Ground.int4(0));
        int[][] askedAndDue = {{Integer.MIN_VALUE, 64}, {63, 64}, {64, 64}, {71, 71}, {72, 72}, {2000, 2000},
            {16384, 16384}, {16385, 16384}, {Integer.MAX_VALUE, 16384}};
        for (int[] row : askedAndDue) {
            Station s = new Station(1, 256, 4, 1, row[0]);
            s.order(15, 1, 5);
            s.order(19, 1, Ground.join(Ground.row(2), Ground.command(1, 0, 8, 1, raise)));
            s.order(19, 4, 2);
            for (int t = 0; t < 12; t++) {
                s.order(8, 1, raise);
                s.box.tick();
            }
            expect.same("packets in a store of " + row[0], s.box.value(28), row[1] / 24);
            expect.same("bytes in a store of " + row[0], s.box.state(3), row[1] / 24 * 24);
            storeIsFilledToTheLastByte(row[0], row[1]);
        }
    }

    private static void storeIsFilledToTheLastByte(int asked, int due) {
        // A dump of n bytes has 22 + n: as many long ones as go, with room for a last one that just fits.
        int many = (due - 23) / 277;
        int left = due - many * 277 > 277 ? 200 : due - many * 277;
        for (int over = 0; over < 2; over++) {
            Station s = new Station(1, 256, 4, 1, asked);
            s.order(15, 1, 6);
            s.tick();
            for (int i = 0; i < many; i++) {
                s.order(6, 5, 0, 0, 255);
                s.tick();
            }
            s.order(6, 5, 0, 0, left - 22 + over);
            s.tick();
            boolean fits = many * 277 + left + over <= due;
            boolean alone = left + over > due;
            expect.same("packets, " + asked + ", " + over, s.box.value(28), fits ? many + 1 : alone ? 0 : many);
        }
    }

    private static void faceIsTheDocuments() {
        String face = Arrays.stream(OrbitBox.class.getDeclaredMethods())
            .filter(m -> !Modifier.isPrivate(m.getModifiers())).map(m -> m.toString()).sorted()
            .collect(Collectors.joining("\n"));
        String none = " throws java.util.NoSuchElementException";
        expect.text("methods", face, String.join("\n",
            "public boolean OrbitBox.end(int)",
            "public boolean OrbitBox.feed(int,int,int,int,int)",
            "public boolean OrbitBox.sense(int,int)",
            "public int OrbitBox.down(int,int)" + none,
            "public int OrbitBox.entry(int,int)" + none,
            "public int OrbitBox.limit(int,int)",
            "public int OrbitBox.memory(int)",
            "public int OrbitBox.state(int)",
            "public int OrbitBox.tick()",
            "public int OrbitBox.uplink()",
            "public int OrbitBox.value(int)" + none,
            "public int OrbitBox.word()"));
        expect.text("fields", Arrays.stream(OrbitBox.class.getDeclaredFields())
            .filter(f -> !Modifier.isPrivate(f.getModifiers())).map(Member::getName)
            .collect(Collectors.joining(",")), "NONE");
        expect.same("constructors", OrbitBox.class.getDeclaredConstructors().length, 1);
        expect.yes("final", Modifier.isFinal(OrbitBox.class.getModifiers()));
    }
}
