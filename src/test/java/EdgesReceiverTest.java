import java.util.Arrays;

/** Edges of COMING UP: where a mark is one, where a block is right, and where a frame ends. */
public final class EdgesReceiverTest extends Edges {
    private static final int[] FRAME = Ground.frame(BESIDE, 0, 1, 2, 3, 4, 5, 6, 7, 8, 9);
    private static final int[] SENT = Ground.transmission(FRAME);
    private static final String MARK = "1110101110010000";

    public static void main(String[] args) {
        oneDifferentBit();
        twoDifferentBits();
        fewerThanSixteenBits();
        bitsOfAWrongBlock();
        bitsOfTheLastBlock();
        markAnywhere();
        sixtyFourBits();
        rightBlock();
        oneBitTurned();
        twoBitsTurned();
        threeBitsThatNoneMends();
        lastBitMeansNothing();
        sevenBytesOfABlock();
        wrongBlockBringsNone();
        wrongBlockEndsIt();
        noBytesNoFrame();
        thirtySevenBlocks();
        thirtySixBlocks();
        searchesFromTheNextBit();
        candidateBeginsEmpty();
        staysFromOneUplinkToTheNext();
        expect.end();
    }

    private static String bits(int... bytes) {
        StringBuilder text = new StringBuilder();
        for (int b : bytes) {
            for (int i = 7; i >= 0; i--) {
                text.append((b >>> i & 1) == 1 ? '1' : '0');
            }
        }
        return text.toString();
    }

    /** The bits as bytes, with zeros behind them where they end within a byte. */
    private static int[] packed(String bits) {
        int[] bytes = new int[(bits.length() + 7) / 8];
        for (int i = 0; i < bits.length(); i++) {
            if (bits.charAt(i) == '1') {
                bytes[i / 8] |= 128 >>> i % 8;
            }
        }
        return bytes;
    }

    private static int collects(int... bytes) {
        Box box = box();
        Ground.up(box, bytes);
        return box.state(5);
    }

    /** A WRONG block with that end: of an even number of ones, but not to be divided. */
    private static String wrongBlock(String end) {
        for (String begin : new String[] {"00", "01", "10", "11"}) {
            String block = begin + "0".repeat(62 - end.length()) + end;
            int ones = 0;
            int remainder = 0;
            for (int i = 0; i < 63; i++) {
                int bit = block.charAt(i) - '0' ^ (i < 56 ? 0 : 1);
                ones += bit;
                remainder = remainder * 2 + bit;
                remainder = remainder >= 128 ? remainder ^ 0b11000101 : remainder;
            }
            if (ones % 2 == 0 && remainder != 0) {
                return block;
            }
        }
        throw new IllegalStateException("there is none such");
    }

    private static void oneDifferentBit() {
        sentence("differ from 1110101110010000 in at most one; then it COLLECTS");
        same("none", collects(packed(MARK)), 1);
        for (int i = 0; i < 16; i++) {
            same("bit " + i, collects(Ground.turned(Ground.MARK, i)), 1);
            same("a frame behind it, bit " + i, Ground.up(box(), Ground.turned(SENT, i)), 1);
        }
    }

    private static void twoDifferentBits() {
        sentence("differ from 1110101110010000 in at most one; then it COLLECTS");
        for (int i = 0; i < 16; i++) {
            for (int j = i + 1; j < 16; j++) {
                same("bits " + i + " and " + j, collects(Ground.turned(Ground.MARK, i, j)), 0);
            }
        }
        same("all but one", collects(packed("0001010001101110")), 0);
        same("all", collects(packed("0001010001101111")), 0);
    }

    private static void fewerThanSixteenBits() {
        sentence("the last sixteen that it got since it began to search");
        same("no bit", collects(), 0);
        same("eight of them", collects(0xEB), 0);
        // The last fifteen of the mark, as the very first bits: with a 0 or a 1 before them they would be a mark.
        same("fifteen of them and another", collects(packed(MARK.substring(1) + "0")), 0);
        same("fifteen of them and another", collects(packed(MARK.substring(1) + "1")), 0);
        Box box = box();
        Ground.up(box, 0xEB);
        same("eight", box.state(5), 0);
        Ground.up(box, 0x90);
        same("sixteen", box.state(5), 1);
    }

    private static void bitsOfAWrongBlock() {
        sentence("the last sixteen that it got since it began to search");
        for (int inBlock = 1; inBlock < 16; inBlock++) {
            String wrong = wrongBlock(MARK.substring(0, inBlock));
            Box box = box();
            Ground.up(box, join(Ground.MARK, packed(wrong)));
            same("it was WRONG, " + inBlock, box.state(5), 0);
            Ground.up(box, packed(MARK.substring(inBlock)));
            same("the mark's first bits are in the block, " + inBlock, box.state(5), 0);
        }
    }

    /** Seven bytes whose right block ends with the first fifteen bits of the mark. */
    private static int[] sevenBeforeAMark() {
        for (int i = 0; i < 65536; i++) {
            int[] seven = {7, 7, 7, 7, i >>> 8, i & 255, 0b01110101};
            if (bits(Ground.blocks(seven)).endsWith(MARK.substring(0, 15))) {
                return seven;
            }
        }
        throw new IllegalStateException("there are none such");
    }

    private static void bitsOfTheLastBlock() {
        sentence("the receiver SEARCHES again, from the next bit on");
        int[] longest = join(Ground.MARK, Ground.blocks(join(filled(36 * 7, 7), sevenBeforeAMark())));
        yes("fifteen bits of the mark end it", bits(longest).endsWith(MARK.substring(0, 15)));
        Box box = box();
        Ground.up(box, longest);
        same("37 blocks were RIGHT", box.value(23), 1);
        same("it searches", box.state(5), 0);
        Ground.up(box, 0);
        same("the sixteenth bit alone is no mark", box.state(5), 0);
        same("a whole one is", Ground.up(box, SENT), 1);
    }

    private static void markAnywhere() {
        sentence("The bits of bytes arrive one by one, the highest of each first.");
        for (int before = 0; before < 40; before++) {
            String noise = "0".repeat(before);
            same("behind " + before + " bits", collects(packed(noise + MARK)), 1);
            same("a frame behind " + before + " bits", Ground.up(box(), packed(noise + bits(SENT))), 1);
        }
    }

    private static void sixtyFourBits() {
        sentence("64 bits are a BLOCK.");
        // The mark begins at the second bit, so that the bytes end one bit before the block does.
        String all = "0" + MARK + wrongBlock("1");
        Box box = box();
        Ground.up(box, packed(all.substring(0, 80)));
        same("63 bits are none", box.state(5), 1);
        Ground.up(box, packed(all.substring(80)));
        same("64 bits are one, and it is WRONG", box.state(5), 0);
    }

    private static void rightBlock() {
        sentence("If x^7 + x^6 + x^2 + 1 divides it, the block is RIGHT");
        // All zeros are divided by anything: with the last seven turned over, the block ends with seven ones.
        String zero = "0".repeat(56) + "1111111" + "0";
        // x^62 .. x^55 times the divisor itself: 11000101 at the front, the rest of the 63 being zeros.
        String divisor = "11000101" + "0".repeat(48) + "1111111" + "0";
        String atTheEnd = "0".repeat(55) + "1" + "0111010" + "0";
        for (String block : new String[] {zero, divisor, atTheEnd}) {
            Box box = box();
            Ground.up(box, join(Ground.MARK, packed(block)));
            same("it goes on behind " + block, box.state(5), 1);
            same("nothing was PUT RIGHT in " + block, box.value(22), 0);
        }
    }

    private static void oneBitTurned() {
        sentence("if it does with just one of the 63 bits turned over, that is done: it is RIGHT and PUT RIGHT");
        for (int bit = 0; bit < 63; bit++) {
            for (int block = 0; block < 3; block++) {
                Box box = box();
                same("bit " + bit + " of block " + block, Ground.up(box, Ground.turned(SENT, 16 + 64 * block + bit)), 1);
                same("PUT RIGHT, bit " + bit, box.value(22), 1);
                same("none REFUSED, bit " + bit, box.value(23), 0);
            }
        }
        Box box = box();
        same("one in each block", Ground.up(box, Ground.turned(SENT, 16, 16 + 64 + 62, 16 + 128 + 30)), 1);
        same("each PUT RIGHT", box.value(22), 3);
    }

    private static void twoBitsTurned() {
        sentence("else it is WRONG");
        for (int i = 0; i < 63; i++) {
            for (int j = i + 1; j < 63; j++) {
                Box box = box();
                Ground.up(box, Arrays.copyOf(Ground.turned(SENT, 16 + i, 16 + j), 10));
                same("bits " + i + " and " + j, box.state(5), 0);
                same("PUT RIGHT, bits " + i + " and " + j, box.value(22), 0);
            }
        }
    }

    private static void threeBitsThatNoneMends() {
        sentence("else it is WRONG");
        // x^6 + x + 1 is the one odd remainder that no power of x below 63 leaves.
        Box box = box();
        Ground.up(box, Arrays.copyOf(Ground.turned(SENT, 16 + 56, 16 + 61, 16 + 62), 10));
        same("it searches", box.state(5), 0);
        same("nothing was PUT RIGHT", box.value(22), 0);
    }

    private static void lastBitMeansNothing() {
        sentence("(The 64th bit means nothing.)");
        for (int block = 0; block < 3; block++) {
            Box box = box();
            same("turned in block " + block, Ground.up(box, Ground.turned(SENT, 16 + 64 * block + 63)), 1);
            same("nothing was PUT RIGHT", box.value(22), 0);
        }
        Box box = box();
        same("turned beside another", Ground.up(box, Ground.turned(SENT, 16 + 63, 16 + 9)), 1);
        same("the other was PUT RIGHT", box.value(22), 1);
    }

    private static void sevenBytesOfABlock() {
        sentence("The first 56 bits of a RIGHT block, as they are then, come as seven bytes behind the CANDIDATE");
        for (int bit = 0; bit < 56; bit++) {
            Station s = new Station();
            int[] test = command(0x2AAA, 17, 1, 1);
            int[] sent = Ground.transmission(Ground.frame(BESIDE, 0, test));
            same("bit " + bit, Ground.up(s.box, Ground.turned(sent, 16 + 64 + bit)), 1);
            s.tick();
            bytes("the packet as it was sent, bit " + bit, s.reports.get(0).data(), 0x18, 42, 0xEA, 0xAA, 0, 7);
        }
    }

    private static void wrongBlockBringsNone() {
        sentence("A WRONG one ends it (and brings none)");
        // Both wrong bits are of the last seven, so that the seven bytes themselves are as they should be.
        Box box = box();
        int[] last = join(Ground.MARK, Ground.turned(Ground.blocks(FRAME), 128 + 57, 128 + 60));
        same("the third block's bytes are missing", Ground.up(box, last), 0);
        same("so what came is REFUSED", box.value(23), 1);
        Box whole = box();
        int[] behind = join(Ground.MARK, Ground.blocks(FRAME), Ground.turned(Ground.blocks(filled(7, 1)), 57, 60));
        same("a WRONG block behind the frame", Ground.up(whole, behind), 1);
    }

    private static void wrongBlockEndsIt() {
        sentence("A WRONG one ends it");
        Box box = box();
        Ground.up(box, join(Ground.MARK, Ground.blocks(FRAME)));
        same("it goes on", box.state(5), 1);
        same("no frame came yet", box.value(24) + box.value(23), 0);
        same("one comes with the WRONG block", Ground.up(box, Ground.WRONG_BLOCK), 1);
        same("it searches", box.state(5), 0);
    }

    private static void noBytesNoFrame() {
        sentence("if it has bytes it is a FRAME that came");
        Box box = box();
        for (int i = 0; i < 3; i++) {
            same("a WRONG block at once", Ground.up(box, join(Ground.MARK, Ground.WRONG_BLOCK)), 0);
            same("is no frame that could be REFUSED", box.value(23), 0);
        }
        Ground.up(box, join(Ground.MARK, Ground.blocks(filled(7, 0)), Ground.WRONG_BLOCK));
        same("seven bytes are one", box.value(23), 1);
    }

    private static void thirtySevenBlocks() {
        sentence("so does the 37th that is RIGHT (with its seven)");
        int[] longest = join(Ground.MARK, Ground.blocks(Ground.frame(BESIDE, 0, filled(252, 7))));
        same("37 blocks", longest.length, 2 + 37 * 8);
        Box box = box();
        same("36 of them", Ground.up(box, Arrays.copyOf(longest, 2 + 36 * 8)), 0);
        same("it collects", box.state(5), 1);
        same("all but a byte", Ground.up(box, Arrays.copyOfRange(longest, 2 + 36 * 8, longest.length - 1)), 0);
        same("it collects", box.state(5), 1);
        same("the 37th", Ground.up(box, longest[longest.length - 1]), 1);
        same("it searches", box.state(5), 0);
        Box mended = box();
        same("a 37th that is PUT RIGHT", Ground.up(mended, Ground.turned(longest, 16 + 36 * 64 + 5)), 1);
        same("it searches", mended.state(5), 0);
        Box none = box();
        Ground.up(none, join(Ground.MARK, Ground.blocks(filled(259, 0))));
        same("37 blocks of a frame that is none", none.value(23), 1);
        same("it searches", none.state(5), 0);
    }

    private static void thirtySixBlocks() {
        sentence("so does the 37th that is RIGHT (with its seven)");
        int[] sent = Ground.transmission(Ground.frame(BESIDE, 0, filled(245, 7)));
        same("36 blocks and a WRONG one", sent.length, 2 + 37 * 8);
        Box box = box();
        same("a frame that fills 36", Ground.up(box, sent), 1);
        same("it searches", box.state(5), 0);
        int[] lost = Ground.transmission(Ground.frame(BESIDE, 0, filled(246, 7)));
        Box other = box();
        Ground.up(other, Ground.turned(lost, 16 + 36 * 64 + 57, 16 + 36 * 64 + 58));
        same("a WRONG 37th brings no bytes", other.value(23), 1);
    }

    private static void searchesFromTheNextBit() {
        sentence("the receiver SEARCHES again, from the next bit on");
        same("behind a WRONG block", Ground.up(box(), join(SENT, SENT)), 2);
        int[] longest = join(Ground.MARK, Ground.blocks(Ground.frame(BESIDE, 0, filled(252, 7))));
        same("behind a 37th", Ground.up(box(), join(longest, longest, SENT)), 3);
        same("a bit later", Ground.up(box(), packed(bits(SENT) + "0" + bits(SENT))), 2);
        // The 64th bit is the block's own: a mark that begins with it is none.
        String wrong = bits(SENT).substring(0, 8 * SENT.length - 1) + "1";
        Box box = box();
        Ground.up(box, packed(wrong + MARK.substring(1)));
        same("a bit earlier", box.state(5), 0);
    }

    private static void candidateBeginsEmpty() {
        sentence("behind the CANDIDATE, empty at first");
        Box box = box();
        int[] half = join(Ground.MARK, Arrays.copyOf(Ground.blocks(FRAME), 16), Ground.WRONG_BLOCK);
        Ground.up(box, half);
        same("two of three blocks", box.value(23), 1);
        Ground.up(box, join(Ground.MARK, Arrays.copyOfRange(Ground.blocks(FRAME), 16, 24), Ground.WRONG_BLOCK));
        same("the third by itself", box.value(23), 2);
        same("none of it is left", Ground.up(box, SENT), 1);
    }

    private static void staysFromOneUplinkToTheNext() {
        sentence("(All this stays as it is from one uplink() to the next.)");
        Box box = box();
        int came = 0;
        for (int i = 0; i < SENT.length; i++) {
            came += Ground.up(box, Ground.turned(SENT, 16 + 64 + 3)[i]);
            box.tick();
            same("collecting behind byte " + i, box.state(5), i >= 1 && i < SENT.length - 1 ? 1 : 0);
            same("PUT RIGHT behind byte " + i, box.value(22), i >= 17 ? 1 : 0);
        }
        same("byte by byte", came, 1);
    }
}
