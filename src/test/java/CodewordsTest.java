import java.util.Arrays;
import java.util.Random;

/** The terms from VERSION to the CODEWORDS, sentence by sentence. */
public final class CodewordsTest {
    private static final int NONE = SquareSymbols.NONE;

    /** How many codewords each version has in all, from the standard of such symbols. */
    private static final int[] ALL = {
        26, 44, 70, 100, 134, 172, 196, 242, 292, 346, 404, 466, 532, 581, 655, 733, 815, 901, 991, 1085,
        1156, 1258, 1364, 1474, 1588, 1706, 1828, 1921, 2051, 2185, 2323, 2465, 2611, 2761, 2876, 3034, 3196, 3362, 3532, 3706};

    /** How many bytes of mode 2 each version has room for at the levels 0 to 3, from there too. */
    private static final int[][] BYTES = {
        {17, 32, 53, 78, 106, 134, 154, 192, 230, 271, 321, 367, 425, 458, 520, 586, 644, 718, 792, 858,
            929, 1003, 1091, 1171, 1273, 1367, 1465, 1528, 1628, 1732, 1840, 1952, 2068, 2188, 2303, 2431, 2563, 2699, 2809, 2953},
        {14, 26, 42, 62, 84, 106, 122, 152, 180, 213, 251, 287, 331, 362, 412, 450, 504, 560, 624, 666,
            711, 779, 857, 911, 997, 1059, 1125, 1190, 1264, 1370, 1452, 1538, 1628, 1722, 1809, 1911, 1989, 2099, 2213, 2331},
        {11, 20, 32, 46, 60, 74, 86, 108, 130, 151, 177, 203, 241, 258, 292, 322, 364, 394, 442, 482,
            509, 565, 611, 661, 715, 751, 805, 868, 908, 982, 1030, 1112, 1168, 1228, 1283, 1351, 1423, 1499, 1579, 1663},
        {7, 14, 24, 34, 44, 58, 64, 84, 98, 119, 137, 155, 177, 194, 220, 250, 280, 310, 338, 382,
            403, 439, 461, 511, 535, 593, 625, 658, 698, 742, 790, 842, 898, 958, 983, 1051, 1093, 1139, 1219, 1273},
    };

    public static void main(String[] args) {
        Due.all(
            CodewordsTest::sides, CodewordsTest::codewordsInAll, CodewordsTest::blocksAndChecks,
            CodewordsTest::holds, CodewordsTest::fits, CodewordsTest::told, CodewordsTest::fourBits,
            CodewordsTest::wholeByte, CodewordsTest::pads, CodewordsTest::blocks, CodewordsTest::checkBytes,
            CodewordsTest::order);
    }

    /** Bytes of mode 2 that are not alike. */
    static SquareSymbols randomBytes(int seed, int n) {
        Random random = new Random(seed);
        SquareSymbols s = new SquareSymbols();
        for (int i = 0; i < n; i++) s.repeat(128 + random.nextInt(128), 1);
        return s;
    }

    static void sides() {
        Due.sentence("VERSION v, 1 .. 40, has S = 17 + 4 v modules a side,");
        SquareSymbols s = new SquareSymbols();
        for (int v = 1; v <= 40; v++) {
            int side = 17 + 4 * v;
            s.make(0, v, 0);
            Due.is("corner at the right", 1, Made.module(s, side - 1, 0));
            Due.is("behind it", 0, s.row(side, 0));
            Due.is("corner below", 1, Made.module(s, 0, side - 1));
            Due.is("below it", 0, s.row(0, side));
            Due.is("the first row has so many", Math.min(64, side), s.spoil(0, 0, -1L));
            Due.is("blank's side", side, s.blank(v));
        }
        Due.is("least side", 21, s.blank(1));
        Due.is("greatest side", 177, s.blank(40));
    }

    static void codewordsInAll() {
        Due.sentence("an eighth, rounded down, of (16 v + 128) v + 64, less, for v above 1 and n = v / 7 + 2 (rounded down), (25 n - 10) n - 55, and less 36 for v above 6.");
        for (int v = 1; v <= 40; v++) {
            for (int level = 0; level < 4; level++) {
                // A segment of mode 2 has a byte and a half, or two and a half, before its bytes.
                int room = ALL[v - 1] - PlainSymbols.BLOCKS[level][v - 1] * PlainSymbols.CHECKS[level][v - 1] - (v < 10 ? 2 : 3);
                SquareSymbols s = new SquareSymbols();
                s.repeat(200, room);
                Due.is(room + " bytes at level " + level, v, s.make(level, v, 0));
                s.repeat(200, 1);
                Due.is(room + 1 + " bytes at level " + level, NONE, s.make(level, v, 0));
            }
        }
    }

    static void blocksAndChecks() {
        // The document's numbers stand in PlainSymbols; quoted from there they must be those of the document.
        Due.sentence("At a LEVEL 0 .. 3 it has B blocks with C check bytes each (from version 1 on): ```text C, "
            + levels(PlainSymbols.CHECKS) + " B, " + levels(PlainSymbols.BLOCKS));
        for (int v = 1; v <= 40; v++) {
            for (int level = 0; level < 4; level++) {
                SquareSymbols s = randomBytes(90 + v, BYTES[level][v - 1]);
                s.make(level, v, 7);
                int[][] blocks = Made.blocks(s);
                Due.is("version " + v + " level " + level, PlainSymbols.BLOCKS[level][v - 1], blocks.length);
                for (int[] block : blocks) {
                    int checks = PlainSymbols.CHECKS[level][v - 1];
                    int[] due = PlainSymbols.withChecks(Arrays.copyOf(block, block.length - checks), checks);
                    Due.isText("version " + v + " level " + level, Arrays.toString(due), Arrays.toString(block));
                }
            }
        }
    }

    private static String levels(int[][] numbers) {
        StringBuilder out = new StringBuilder();
        for (int level = 0; level < 4; level++) {
            out.append(level == 0 ? "" : " ").append("level ").append(level).append(':');
            for (int n : numbers[level]) out.append(' ').append(n);
            out.append(level == 3 ? '.' : ';');
        }
        return out.toString();
    }

    static void holds() {
        Due.sentence("It HOLDS R - B C bytes.");
        for (int level = 0; level < 4; level++) {
            for (int v = 1; v <= 40; v++) {
                SquareSymbols s = randomBytes(v, BYTES[level][v - 1]);
                String what = "version " + v + " level " + level;
                Due.is(what, v, s.make(level, v, v % 8));
                Due.is(what + " as the least one", v, s.make(level, 0, v % 8));
                String data = Made.data(s);
                s.wipe();
                Due.is(what + " read", data.length(), s.read());
                Due.isText(what + " read", data, Made.data(s));
                s.repeat(200, 1);
                Due.is(what + " one more", NONE, s.make(level, v, 0));
                Due.is(what + " one more, as the least one", v == 40 ? NONE : v + 1, s.make(level, 0, 0));
            }
        }
    }

    /** Data with just so many bits, in a version of the first span, at level 0. */
    static String withBits(int bits, int version) {
        for (int letters = 0; letters < 200; letters++) {
            for (int digits = 0; digits < 200; digits++) {
                String data = "abcdefgh".repeat(25).substring(0, letters) + "1234567890".repeat(20).substring(0, digits);
                int written = (letters == 0 ? 0 : 12 + 8 * letters) + (digits == 0 ? 0 : 14 + PlainSymbols.bytesBits(0, digits));
                if (digits != 1 && digits != 2 && written == bits) return data;
            }
        }
        throw new IllegalStateException("no data with " + bits + " bits");
    }

    static void fits() {
        Due.sentence("Data FITS if its segments have no more bits than that,");
        int[][] rooms = {{1, 0, 152}, {1, 1, 128}, {1, 2, 104}, {2, 0, 272}, {2, 3, 128}, {4, 3, 288}, {7, 3, 528}};
        for (int[] r : rooms) {
            SquareSymbols s = Made.of(withBits(r[2], r[0]));
            Due.is("just as many bits", r[0], s.make(r[1], r[0], 0));
            Due.is("so many bits", r[2], s.told(5));
            Due.is("just as many bits, the least version", r[0], s.make(r[1], 0, 0));
            s.wipe();
            Made.add(s, withBits(r[2] + 1, r[0]));
            Due.is("one bit more", NONE, s.make(r[1], r[0], 0));
            Due.is("one bit more, the least version", r[0] + 1, s.make(r[1], 0, 0));
            Due.is("one bit more is told", r[2] + 1, s.told(5));
            Due.is("one bit more is read", s.wipe(), s.read());
        }
        // 3000 digits have 10018 bits from version 27 on: level 3 of version 40 has 10208.
        SquareSymbols s = new SquareSymbols();
        s.repeat('7', 3000);
        Due.is("the most digits", 40, s.make(3, 0, 0));
        Due.is("the most digits' bits", 10018, s.told(5));
        Due.is("the most digits in version 39", NONE, s.make(3, 39, 0));
    }

    /**
     * The widths leave room for more bytes than any version of their span holds, so that the
     * bits always end first; a segment that could not be told is refused all the same.
     */
    static void told() {
        Due.sentence("and no segment more bytes than can be told (of the division that counts, whether another one would fit or not).");
        int[][] most = {{'z', 9, 255}, {'Z', 9, 511}, {'7', 9, 1023}, {'Z', 26, 2047}};
        for (int[] m : most) {
            for (int more = 0; more < 2; more++) {
                for (int level = 0; level < 3; level++) {
                    SquareSymbols s = new SquareSymbols();
                    s.repeat(m[0], m[2] + more);
                    Due.is("as many as can be told, and " + more, NONE, s.make(level, m[1], 0));
                    Due.isSo("a version of the next span", s.make(level, 0, 0) > m[1]);
                    Due.is("one segment", 1, s.told(4));
                    Due.is("of all", m[2] + more, s.segment(0, 1));
                }
            }
        }
        for (int v = 1; v <= 40; v++) {
            for (int mode = 0; mode < 3; mode++) {
                int bytes = 1 << PlainSymbols.countBits(mode, v);
                int bits = 4 + PlainSymbols.countBits(mode, v) + PlainSymbols.bytesBits(mode, bytes);
                Due.isSo("the bits end first", bytes > 3000 || bits > 8 * PlainSymbols.holds(0, v));
            }
        }
    }

    /** All bits behind the segments of data with so many bits, in version 1 at level 0. */
    static void isBehind(int bits, String due) {
        SquareSymbols s = Made.of(withBits(bits, 1));
        Due.is("make", 1, s.make(0, 1, 5));
        Due.is("bits", bits, s.told(5));
        Due.isText("behind " + bits, due, Made.bits(s).substring(bits));
        Due.is("read", s.wipe(), s.read());
    }

    static void fourBits() {
        Due.sentence("Behind its segments come four bits 0, or as many as there is room for;");
        isBehind(152, "");
        isBehind(151, "0");
        isBehind(150, "00");
        isBehind(149, "000");
        isBehind(148, "0000");
        // Four bits go over into the next byte, so that no pad comes where three would do.
        isBehind(141, "0000" + "0000000");
        isBehind(140, "0000" + "11101100");
    }

    static void wholeByte() {
        Due.sentence("bits 0 up to a whole byte;");
        isBehind(147, "0000" + "0");
        isBehind(146, "0000" + "00");
        isBehind(145, "0000" + "000");
        isBehind(144, "0000" + "0000");
        isBehind(143, "0000" + "00000");
        isBehind(142, "0000" + "000000");
        isBehind(139, "0000" + "0" + "11101100");
        isBehind(136, "0000" + "0000" + "11101100");
        isBehind(132, "0000" + "11101100" + "00010001");
    }

    static void pads() {
        Due.sentence("then 236, 17, 236 and so on until all are there.");
        isBehind(124, "0000" + "11101100" + "00010001" + "11101100");
        isBehind(116, "0000" + "11101100" + "00010001" + "11101100" + "00010001");
        // Through all blocks, whatever a block begins with.
        int[][] made = {{1, 0}, {1, 3}, {5, 2}, {7, 3}, {10, 0}, {27, 1}, {40, 0}, {40, 3}};
        for (int[] m : made) {
            SquareSymbols s = new SquareSymbols();
            s.make(m[1], m[0], 2);
            StringBuilder due = new StringBuilder("00000000");
            while (due.length() < 8 * PlainSymbols.holds(m[1], m[0])) due.append(due.length() % 16 == 8 ? "11101100" : "00010001");
            Due.isText("no data in version " + m[0], due.toString(), Made.bits(s));
        }
    }

    static void blocks() {
        Due.sentence("The bytes are divided into the blocks, in order, each with the Bth part of them, rounded down, and the last ones one more, so that all are there.");
        // Version, level, how many have the shorter and how many the longer length, the shorter one.
        int[][] due = {{1, 0, 1, 0, 19}, {3, 2, 2, 0, 17}, {5, 2, 2, 2, 15}, {5, 3, 2, 2, 11}, {6, 0, 2, 0, 68}, {7, 3, 4, 1, 13},
            {8, 1, 2, 2, 38}, {9, 1, 3, 2, 36}, {10, 0, 2, 2, 68}, {13, 3, 12, 4, 11}, {26, 1, 19, 4, 46}, {40, 0, 19, 6, 118}, {40, 3, 20, 61, 15}};
        for (int[] d : due) {
            int shorter = d[2];
            int blocks = d[2] + d[3];
            SquareSymbols s = randomBytes(d[0], BYTES[d[1]][d[0] - 1]);
            s.make(d[1], d[0], 6);
            int[] stream = stream(s);
            Due.is("bytes in all", shorter * d[4] + d[3] * (d[4] + 1), stream.length);
            int[] words = Made.codewords(s);
            int start = 0;
            for (int b = 0; b < blocks; b++) {
                Due.is("version " + d[0] + ", first byte of block " + b, stream[start], words[b]);
                int last = d[4] - 1;
                Due.is("version " + d[0] + ", last byte but one of block " + b, stream[start + last], words[last * blocks + b]);
                if (b >= shorter) {
                    Due.is("version " + d[0] + ", last byte of block " + b, stream[start + last + 1], words[(last + 1) * blocks + b - shorter]);
                }
                start += b < shorter ? d[4] : d[4] + 1;
            }
        }
    }

    /** The bytes of data that is one segment of mode 2, filled up; written here once more. */
    static int[] stream(SquareSymbols s) {
        int size = s.segment(0, 1);
        StringBuilder bits = new StringBuilder("0100" + PlainSymbols.text(size, s.told(0) < 10 ? 8 : 16));
        for (int i = 0; i < size; i++) bits.append(PlainSymbols.text(s.at(i), 8));
        return PlainSymbols.filled(bits.toString(), s.told(1), s.told(0));
    }

    static void checkBytes() {
        Due.sentence("over the field of 256 elements with x^8 + x^4 + x^3 + x^2 + 1: block and check bytes together have the value 0 at 2 to the 0, 1, .., C - 1.");
        for (int v = 1; v <= 40; v++) {
            for (int level = 0; level < 4; level++) {
                SquareSymbols s = randomBytes(50 + v, BYTES[level][v - 1]);
                s.make(level, v, 4);
                int checks = PlainSymbols.CHECKS[level][v - 1];
                boolean more = true;
                for (int[] block : Made.blocks(s)) {
                    for (int i = 0; i < checks; i++) {
                        Due.is("version " + v + " at 2 to the " + i, 0, PlainSymbols.value(block, PlainSymbols.power(2, i)));
                    }
                    more &= PlainSymbols.value(block, PlainSymbols.power(2, checks)) == 0;
                }
                Due.isSo("version " + v + ", no more than that", !more);
            }
        }
        isBlock("01234567", 1, 2, 16, 32, 12, 86, 97, 128, 236, 17, 236, 17, 236, 17, 236, 17, 236, 17,
            165, 36, 212, 193, 237, 54, 199, 135, 44, 85);
        isBlock("HELLO WORLD", 2, 6, 32, 91, 11, 120, 209, 114, 220, 77, 67, 64, 236, 17, 236,
            168, 72, 22, 82, 217, 54, 156, 0, 46, 15, 180, 122, 16);
    }

    /** Known from the standard of such symbols, and from a well-known example. */
    private static void isBlock(String data, int level, int mask, int... due) {
        SquareSymbols s = Made.of(data);
        s.make(level, 1, mask);
        Due.isText(data, Arrays.toString(due), Arrays.toString(Made.codewords(s)));
    }

    static void order() {
        Due.sentence("the first bytes of all blocks, in order, then the second ones, and so on (blocks that have no more are left out), then the first check bytes of all blocks, and so on.");
        // Version 5 at level 2: blocks of 15, 15, 16 and 16 bytes, 18 check bytes each.
        SquareSymbols s = randomBytes(5, 60);
        s.make(2, 5, 1);
        int[] words = Made.codewords(s);
        int[] stream = stream(s);
        int[] starts = {0, 15, 30, 46};
        Due.is("codewords", 134, words.length);
        for (int j = 0; j < 15; j++) {
            for (int b = 0; b < 4; b++) Due.is("byte " + j + " of block " + b, stream[starts[b] + j], words[4 * j + b]);
        }
        Due.is("last byte of block 2", stream[45], words[60]);
        Due.is("last byte of block 3", stream[61], words[61]);
        for (int b = 0; b < 4; b++) {
            int[] block = PlainSymbols.withChecks(Arrays.copyOfRange(stream, starts[b], starts[b] + (b < 2 ? 15 : 16)), 18);
            for (int j = 0; j < 18; j++) Due.is("check byte " + j + " of block " + b, block[block.length - 18 + j], words[62 + 4 * j + b]);
        }
        // Blocks of one length, and one block alone.
        s = randomBytes(6, 134);
        s.make(0, 6, 1);
        for (int j = 0; j < 68; j++) {
            for (int b = 0; b < 2; b++) Due.is("byte " + j + " of block " + b + " of two", stream(s)[68 * b + j], Made.codewords(s)[2 * j + b]);
        }
        s = randomBytes(7, 106);
        s.make(0, 5, 1);
        for (int j = 0; j < 108; j++) Due.is("byte " + j + " of one block", stream(s)[j], Made.codewords(s)[j]);
    }
}
