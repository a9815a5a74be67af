/** Edges of THE CHECK, of service 6 and of promise 10 (memory). */
public final class EdgesMemoryTest extends Edges {
    public static void main(String[] args) {
        checkOfKnownBytes();
        checkOfARowWithItsCheck();
        nIsZero();
        loadAtTheEnd();
        loadOfTheMost();
        refusedLoadChangesNothing();
        dumpAtTheEnd();
        smallestAndLargestDump();
        checkAtTheEnd();
        checkOfAll();
        bytesInAndOut();
        noSuchByte();
        expect.end();
    }

    private static int checkOf(int... bytes) {
        Station s = new Station();
        s.tryOut(6, 2, join(row(0, 0, bytes.length), bytes));
        s.tryOut(6, 9, 0, 0, 0, bytes.length);
        int[] data = s.reports.get(0).data();
        return data[4] * 256 + data[5];
    }

    private static void checkOfKnownBytes() {
        sentence("c is 65535; for each byte b: c exclusive-or b * 256, then eight times: c doubled, and, if that is 65536");
        same("of 123456789 in letters", checkOf(0x31, 0x32, 0x33, 0x34, 0x35, 0x36, 0x37, 0x38, 0x39), 0x29B1);
        same("of 0", checkOf(0), 0xE1F0);
        same("of 255", checkOf(255), 0xFF00);
        same("of 255 255", checkOf(255, 255), 0);
        same("of the letter A", checkOf(0x41), 0xB915);
    }

    private static void checkOfARowWithItsCheck() {
        sentence("A row of bytes whose last two are the CHECK of the others has the CHECK 0.");
        same("123456789 and its CHECK", checkOf(0x31, 0x32, 0x33, 0x34, 0x35, 0x36, 0x37, 0x38, 0x39, 0x29, 0xB1), 0);
        same("0 and its CHECK", checkOf(0, 0xE1, 0xF0), 0);
        yes("another last byte", checkOf(0, 0xE1, 0xF1) != 0);
    }

    private static void nIsZero() {
        sentence("17 (n is 0, not all are in it)");
        Station s = new Station();
        for (int place : new int[] {0, 100, 4095, 4096, 65535}) {
            same("6 2 at " + place, s.tryOut(6, 2, join(int2(place), row(0))), 17);
            same("6 5 at " + place, s.tryOut(6, 5, join(int2(place), row(0))), 17);
            same("6 9 at " + place, s.tryOut(6, 9, join(int2(place), row(0, 0))), 17);
        }
    }

    private static void loadAtTheEnd() {
        sentence("17 (n is 0, not all are in it)");
        Station s = new Station();
        same("the last byte", s.tryOut(6, 2, join(int2(4095), row(1, 9))), 0);
        same("is there", s.box.memory(4095), 9);
        same("one beyond", s.tryOut(6, 2, join(int2(4095), row(2, 8, 8))), 17);
        same("the first behind", s.tryOut(6, 2, join(int2(4096), row(1, 8))), 17);
        same("the last place of all", s.tryOut(6, 2, join(int2(65535), row(1, 8))), 17);
        same("many at the end", s.tryOut(6, 2, join(int2(4096 - 200), row(200), filled(200, 7))), 0);
        same("many, one beyond", s.tryOut(6, 2, join(int2(4096 - 199), row(200), filled(200, 6))), 17);
        same("the last byte", s.box.memory(4095), 7);
    }

    private static void loadOfTheMost() {
        sentence("6 2: place (2), n (1), and n bytes: they come into the MEMORY (4,096 bytes, 0 at first)");
        Station s = new Station();
        int[] many = new int[236];
        for (int i = 0; i < many.length; i++) {
            many[i] = 255 - i;
        }
        same("as many as a frame can bring", s.tryOut(6, 2, join(int2(1000), row(236), many)), 0);
        same("before", s.box.memory(999), 0);
        for (int i = 0; i < many.length; i++) {
            same("byte " + i, s.box.memory(1000 + i), many[i]);
        }
        same("behind", s.box.memory(1236), 0);
    }

    private static void refusedLoadChangesNothing() {
        sentence("nothing is done, and a REPORT 1 4 is made");
        Station s = new Station();
        same("two of four are in it", s.tryOut(6, 2, join(int2(4094), row(4, 1, 2, 3, 4))), 17);
        same("the last but one", s.box.memory(4094), 0);
        same("the last", s.box.memory(4095), 0);
        same("the first", s.box.memory(0), 0);
        same("the second", s.box.memory(1), 0);
    }

    private static void dumpAtTheEnd() {
        sentence("6 5: place (2), n (1): REPORT 6 6: place (2), n (1), the n bytes: 17.");
        Station s = new Station();
        s.tryOut(6, 2, join(int2(4094), row(2, 5, 6)));
        same("the last two", s.tryOut(6, 5, join(int2(4094), row(2))), 0);
        text("the report", s.told(), "6 6");
        bytes("the last two", s.reports.get(0).data(), 15, 254, 2, 5, 6);
        same("one beyond", s.tryOut(6, 5, join(int2(4094), row(3))), 17);
        text("no dump", s.told(), "1 4");
        same("255 at the end", s.tryOut(6, 5, join(int2(4096 - 255), row(255))), 0);
        same("255, one beyond", s.tryOut(6, 5, join(int2(4096 - 254), row(255))), 17);
        same("the first behind", s.tryOut(6, 5, join(int2(4096), row(1))), 17);
        same("the last place of all", s.tryOut(6, 5, join(int2(65535), row(255))), 17);
    }

    private static void smallestAndLargestDump() {
        sentence("REPORT 6 6: place (2), n (1), the n bytes");
        Station s = new Station();
        s.tryOut(6, 2, join(int2(0), row(3, 200, 201, 202)));
        s.tryOut(6, 5, join(int2(1), row(1)));
        bytes("one byte", s.reports.get(0).data(), 0, 1, 1, 201);
        s.tryOut(6, 5, join(int2(0), row(255)));
        bytes("255 bytes", s.reports.get(0).data(), join(row(0, 0, 255, 200, 201, 202), filled(252, 0)));
        same("the whole packet", s.reports.get(0).bytes().length, 277);
        same("its CHECK", Ground.check(s.reports.get(0).bytes()), 0);
    }

    private static void checkAtTheEnd() {
        sentence("6 9: place (2), n (2): REPORT 6 10: place (2), n (2), their CHECK (2): 17.");
        Station s = new Station();
        s.tryOut(6, 2, join(int2(4095), row(1, 255)));
        same("the last byte", s.tryOut(6, 9, join(int2(4095), int2(1))), 0);
        text("the report", s.told(), "6 10");
        bytes("the last byte", s.reports.get(0).data(), 15, 255, 0, 1, 0xFF, 0);
        same("one beyond", s.tryOut(6, 9, join(int2(4095), int2(2))), 17);
        same("all but the first", s.tryOut(6, 9, join(int2(1), int2(4095))), 0);
        same("all but the first, and one beyond", s.tryOut(6, 9, join(int2(1), int2(4096))), 17);
        same("the first behind", s.tryOut(6, 9, join(int2(4096), int2(1))), 17);
        same("the most of all", s.tryOut(6, 9, join(int2(65535), int2(65535))), 17);
    }

    private static void checkOfAll() {
        sentence("6 9: place (2), n (2): REPORT 6 10: place (2), n (2), their CHECK (2): 17.");
        Station s = new Station();
        same("4,096 bytes", s.tryOut(6, 9, join(int2(0), int2(4096))), 0);
        int check = Ground.check(new int[4096]);
        bytes("4,096 bytes", s.reports.get(0).data(), 0, 0, 16, 0, check >>> 8, check & 255);
        same("4,097 bytes", s.tryOut(6, 9, join(int2(0), int2(4097))), 17);
        same("65,535 bytes", s.tryOut(6, 9, join(int2(0), int2(65535))), 17);
    }

    private static void bytesInAndOut() {
        sentence("BYTES are 0 .. 255.");
        Station s = new Station();
        s.tryOut(6, 2, join(int2(0), row(4, 0, 127, 128, 255)));
        same("0", s.box.memory(0), 0);
        same("127", s.box.memory(1), 127);
        same("128", s.box.memory(2), 128);
        same("255", s.box.memory(3), 255);
        s.tryOut(6, 2, join(int2(3), row(1, 0)));
        same("0 again", s.box.memory(3), 0);
    }

    private static void noSuchByte() {
        sentence("Byte k of the memory; NONE if there is none such.");
        Station s = new Station();
        s.tryOut(6, 2, join(int2(4095), row(1, 77)));
        s.tryOut(6, 2, join(int2(0), row(1, 78)));
        same("the first", s.box.memory(0), 78);
        same("the last", s.box.memory(4095), 77);
        for (int k : new int[] {-1, 4096, 4097, -4096, 65536, LEAST, LARGEST}) {
            same("byte " + k, s.box.memory(k), NONE);
        }
    }
}
