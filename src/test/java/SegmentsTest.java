import java.util.Random;

/** The terms from MODE to the division of the data, sentence by sentence. */
public final class SegmentsTest {
    private static final int NONE = SquareSymbols.NONE;
    private static final String SIGNS = "0123456789ABCDEFGHIJKLMNOPQRSTUVWXYZ $%*+-./:";
    /** The first and the last version of each span of widths. */
    private static final int[] EDGES = {1, 9, 10, 26, 27, 40};

    public static void main(String[] args) {
        Due.all(
            SegmentsTest::modesOfBytes, SegmentsTest::numbersOfSigns, SegmentsTest::runsOfOneMode,
            SegmentsTest::modeBits, SegmentsTest::widths, SegmentsTest::digits, SegmentsTest::signs,
            SegmentsTest::bytes, SegmentsTest::highestBitFirst, SegmentsTest::fewestBits,
            SegmentsTest::firstInOrder, SegmentsTest::noBytes);
    }

    static String text(int number, int width) {
        return PlainSymbols.text(number, width);
    }

    /** The bits that a text begins with in a version, at level 0. */
    static void isWritten(String data, int version, String due) {
        SquareSymbols s = Made.of(data);
        Due.is("make " + data, version, s.make(0, version, 3));
        Due.is("bits of " + data, due.length(), s.told(5));
        Due.isText(data, due, Made.bits(s).substring(0, due.length()));
        s.wipe();
        Due.is("read " + data, data.length(), s.read());
        Due.isText("what is read", data, Made.data(s));
    }

    static void isDivided(String data, int version, String due, int bits) {
        SquareSymbols s = Made.of(data);
        Due.is("make " + data, version, s.make(0, version, 0));
        Due.isText(data + " in version " + version, due, Made.segments(s));
        Due.is("bits of " + data + " in version " + version, bits, s.told(5));
    }

    static void modesOfBytes() {
        Due.sentence("A MODE of a byte: 0 DIGIT, it is one of 0 .. 9; 1 SIGN, it is one of the 45 signs 0 .. 9 A .. Z blank $ % * + - . / : (their numbers are 0 .. 44 in this order); 2 BYTE, any.");
        for (int b = 0; b < 256; b++) {
            int mode = b >= 48 && b <= 57 ? 0 : SIGNS.indexOf(b) >= 0 ? 1 : 2;
            for (int version : EDGES) {
                SquareSymbols s = new SquareSymbols();
                s.repeat(b, 1);
                s.make(1, version, 0);
                Due.is("mode of byte " + b, mode, s.segment(0, 0));
                Due.is("length of byte " + b, 1, s.segment(0, 1));
            }
        }
        // Beside the digits, the great letters and the other signs, by their numbers.
        int[][] beside = {{47, 1}, {48, 0}, {57, 0}, {58, 1}, {59, 2}, {64, 2}, {65, 1}, {90, 1}, {91, 2},
            {31, 2}, {32, 1}, {33, 2}, {35, 2}, {36, 1}, {37, 1}, {38, 2}, {41, 2}, {42, 1}, {43, 1}, {44, 2},
            {45, 1}, {46, 1}, {97, 2}, {176, 2}, {0, 2}, {255, 2}};
        for (int[] b : beside) {
            SquareSymbols s = new SquareSymbols();
            s.repeat(b[0], 1);
            s.make(0, 0, 0);
            Due.is("mode of byte " + b[0], b[1], s.segment(0, 0));
        }
    }

    static void numbersOfSigns() {
        Due.sentence("(their numbers are 0 .. 44 in this order)");
        Due.is("signs", 45, SIGNS.length());
        for (int i = 0; i < 45; i++) {
            char sign = SIGNS.charAt(i);
            String before = "0010" + text(5, 9);
            isWritten("AA" + sign + "AA", 1, before + text(460, 11) + text(45 * i + 10, 11) + text(10, 6));
            isWritten("A" + sign + "AAA", 1, before + text(450 + i, 11) + text(460, 11) + text(10, 6));
            if (i > 9) isWritten("AAAA" + sign, 1, before + text(460, 11) + text(460, 11) + text(i, 6));
        }
    }

    static void runsOfOneMode() {
        Due.sentence("The data is divided into SEGMENTS, each a run of bytes of one mode, with two beside each other of different modes;");
        Random random = new Random(11);
        String[] kinds = {"0123456789", SIGNS, "abcxyz\u00ff"};
        for (int i = 0; i < 300; i++) {
            StringBuilder text = new StringBuilder();
            while (text.length() < 90) {
                String kind = kinds[random.nextInt(3)];
                for (int n = 1 + random.nextInt(12); n > 0; n--) text.append(kind.charAt(random.nextInt(kind.length())));
            }
            SquareSymbols s = Made.of(text.toString());
            s.make(0, EDGES[1 + i % 5], 0);
            int at = 0;
            for (int k = 0; k < s.told(4); k++) {
                Due.isSo("a segment has bytes", s.segment(k, 1) > 0);
                Due.isSo("another mode than the one before", k == 0 || s.segment(k, 0) != s.segment(k - 1, 0));
                for (int n = s.segment(k, 1); n > 0; n--, at++) {
                    Due.isSo("of its mode", PlainSymbols.isOfMode(s.at(at), s.segment(k, 0)));
                }
            }
            Due.is("bytes in all", text.length(), at);
        }
        // Alike ones come into one segment, as many as they are.
        isDivided("1".repeat(552), 9, "0:552", 1854);
        isDivided("Z".repeat(1990), 26, "1:1990", 10960);
        isDivided("z".repeat(2953), 40, "2:2953", 23644);
    }

    static void modeBits() {
        Due.sentence("a segment has four bits, 0001, 0010 or 0100 for the mode 0, 1 or 2;");
        for (int version : EDGES) {
            String[] due = {"0001", "0010", "0100"};
            String[] data = {"8", "X", "x"};
            for (int mode = 0; mode < 3; mode++) {
                SquareSymbols s = Made.of(data[mode]);
                s.make(0, version, 0);
                Due.isText("mode " + mode, due[mode], Made.bits(s).substring(0, 4));
            }
        }
        isWritten("x" + "1234567", 1, "0100" + text(1, 8) + text('x', 8)
            + "0001" + text(7, 10) + text(123, 10) + text(456, 10) + text(7, 4));
        isWritten("x" + "ABCDEF", 1, "0100" + text(1, 8) + text('x', 8)
            + "0010" + text(6, 9) + text(461, 11) + text(553, 11) + text(645, 11));
    }

    static void widths() {
        Due.sentence("then how many bytes it has, in as many bits as the version asks for: 10, 9, 8 for the modes 0, 1, 2 up to version 9; 12, 11, 16 from 10 to 26; 14, 13, 16 from 27 on;");
        int[][] due = {{1, 10, 9, 8}, {9, 10, 9, 8}, {10, 12, 11, 16}, {26, 12, 11, 16}, {27, 14, 13, 16}, {40, 14, 13, 16}};
        for (int[] d : due) {
            isWritten("3", d[0], "0001" + text(1, d[1]) + text(3, 4));
            isWritten("B", d[0], "0010" + text(1, d[2]) + text(11, 6));
            isWritten("b", d[0], "0100" + text(1, d[3]) + text('b', 8));
        }
        // Numbers that fill the widths as far as data does.
        isWritten("0".repeat(552), 9, "0001" + text(552, 10) + text(0, 1840));
        isWritten("b".repeat(230), 9, "0100" + text(230, 8) + text('b', 8).repeat(230));
        isWritten("b".repeat(256), 10, "0100" + text(256, 16) + text('b', 8).repeat(256));
        isWritten("b".repeat(2953), 40, "0100" + text(2953, 16) + text('b', 8).repeat(2953));
        isWritten("0".repeat(3000), 40, "0001" + text(3000, 14) + text(0, 10000));
        isWritten("A".repeat(3000), 40, "0010" + text(3000, 13) + text(460, 11).repeat(1500));
    }

    static void digits() {
        Due.sentence("mode 0: each three digits as a number in ten bits, two that are left in seven, one in four;");
        String[] data = {"0", "9", "00", "07", "99", "000", "007", "999", "0000", "9999", "00000", "12345", "99999", "123456", "1234567"};
        int[][] groups = {{0, 4}, {9, 4}, {0, 7}, {7, 7}, {99, 7}, {0, 10}, {7, 10}, {999, 10}, {0, 10, 0, 4}, {999, 10, 9, 4},
            {0, 10, 0, 7}, {123, 10, 45, 7}, {999, 10, 99, 7}, {123, 10, 456, 10}, {123, 10, 456, 10, 7, 4}};
        for (int i = 0; i < data.length; i++) {
            StringBuilder bits = new StringBuilder("0001" + text(data[i].length(), 10));
            for (int g = 0; g < groups[i].length; g += 2) bits.append(text(groups[i][g], groups[i][g + 1]));
            isWritten(data[i], 1, bits.toString());
        }
    }

    static void signs() {
        Due.sentence("mode 1: each two signs as 45 times the number of the first one, and that of the second, in eleven bits, one that is left in six;");
        isWritten("A", 1, "0010" + text(1, 9) + text(10, 6));
        isWritten(":", 1, "0010" + text(1, 9) + text(44, 6));
        isWritten("A:", 1, "0010" + text(2, 9) + text(494, 11));
        isWritten(":A", 1, "0010" + text(2, 9) + text(1990, 11));
        isWritten("::", 1, "0010" + text(2, 9) + text(2024, 11));
        isWritten(":::", 1, "0010" + text(3, 9) + text(2024, 11) + text(44, 6));
        isWritten("AC-42", 1, "0010" + text(5, 9) + "00111001110" + "11100111001" + "000010");
    }

    static void bytes() {
        Due.sentence("mode 2: each in eight bits.");
        isWritten("\u0000", 1, "0100" + text(1, 8) + "00000000");
        isWritten("\u00ff", 1, "0100" + text(1, 8) + "11111111");
        isWritten("\u0080\u0001", 1, "0100" + text(2, 8) + "10000000" + "00000001");
        isWritten("a1A", 1, "0100" + text(3, 8) + text('a', 8) + text('1', 8) + text('A', 8));
    }

    static void highestBitFirst() {
        Due.sentence("(All numbers with the highest bit first.)");
        // The digits 01234567, as the standard of such symbols writes them.
        isWritten("01234567", 1, "0001" + "0000001000" + "0000001100" + "0101011001" + "1000011");
        isWritten("a", 10, "0100" + "0000000000000001" + "01100001");
    }

    static void fewestBits() {
        Due.sentence("Of all divisions those with the fewest bits count;");
        // One byte less, and all go into one segment; in each span of versions.
        isDivided("a12", 9, "2:3", 36);
        isDivided("a1234", 9, "2:1 0:4", 48);
        isDivided("a123", 10, "2:4", 52);
        isDivided("a1234", 26, "2:1 0:4", 58);
        isDivided("a123", 27, "2:4", 52);
        isDivided("a12345", 40, "2:1 0:5", 63);
        isDivided("A123456", 9, "1:7", 52);
        isDivided("A12345678", 9, "1:1 0:8", 60);
        isDivided("A1234567", 10, "1:8", 59);
        isDivided("A12345678", 26, "1:1 0:8", 64);
        isDivided("A12345678", 27, "1:9", 67);
        isDivided("A123456789", 40, "1:1 0:9", 71);
        isDivided("aAAAAA", 9, "2:6", 60);
        isDivided("aAAAAAA", 9, "2:1 1:6", 66);
        isDivided("aAAAAA", 10, "2:6", 68);
        isDivided("aAAAAAAA", 26, "2:1 1:7", 82);
        isDivided("aAAAAAA", 27, "2:7", 76);
        isDivided("aAAAAAAAA", 40, "2:1 1:8", 89);
        // In the midst a segment must pay for the one behind it, too.
        isDivided("a12345b", 9, "2:7", 68);
        isDivided("a123456b", 9, "2:1 0:6 2:1", 74);
        isDivided("aAAAAAAAAAAAb", 9, "2:1 1:11 2:1", 114);
    }

    static void firstInOrder() {
        Due.sentence("of these the one whose modes, written byte by byte, are the first in the order of such rows (at the first byte at which two differ the lesser mode comes first).");
        // All of these have as few bits as one segment.
        isDivided("a123", 9, "2:1 0:3", 44);
        isDivided("123a", 9, "0:3 2:1", 44);
        isDivided("a1234", 27, "2:1 0:4", 60);
        isDivided("1234a", 40, "0:4 2:1", 60);
        isDivided("A1234567", 9, "1:1 0:7", 57);
        isDivided("1234567A", 1, "0:7 1:1", 57);
        isDivided("aAAAAAA", 10, "2:1 1:6", 76);
        isDivided("AAAAAAa", 26, "1:6 2:1", 76);
        isDivided("AAAAAAAa", 27, "1:7 2:1", 84);
        // The first byte that differs decides, whatever comes behind it.
        isDivided("123a1234567", 9, "0:3 2:1 0:7", 82);
    }

    static void noBytes() {
        Due.sentence("No bytes have no segment.");
        SquareSymbols s = new SquareSymbols();
        for (int version = 0; version <= 40; version++) {
            Due.is("make", Math.max(1, version), s.make(version % 4, version, version % 8));
            Due.is("segments", 0, s.told(4));
            Due.is("bits", 0, s.told(5));
            Due.is("first segment", NONE, s.segment(0, 0));
            Due.is("first segment", NONE, s.segment(0, 1));
            Due.is("read", 0, s.read());
            Due.is("segments read", 0, s.reading(3));
        }
        s.put(1, 'a');
        s.make(0, 0, 0);
        s.wipe();
        s.make(0, 0, 0);
        Due.is("segments behind others", 0, s.told(4));
        Due.is("segment behind others", NONE, s.segment(0, 0));
    }
}
