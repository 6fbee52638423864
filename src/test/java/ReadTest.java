import java.util.List;

/** Promises 12, 13 and 14: read, fault, reading. */
public final class ReadTest {
    private static final int NONE = SquareSymbols.NONE;

    public static void main(String[] args) {
        whatWasMade();
        form();
        firstFormGoesFirst();
        blocksPutRight();
        versionsOfLessRight();
        severalBlocks();
        writtenBits();
        faultsOfBits();
        faultsInOrder();
        tooMany();
        whatStays();
        reading();
        Due.end();
    }

    static void whatWasMade() {
        String[] texts = {"", "7", "42", "1234567", "A", "AB", "$%*+-./: ", "a", "\u0000\u00ff\u0080", "HTTP://X.ORG/a1b2?0123456789=X"};
        for (String text : texts) {
            for (int level = 0; level < 4; level++) {
                SquareSymbols s = MakeTest.of(text);
                int version = s.make(level, level == 3 ? 7 : 0, NONE);
                int segments = s.told(4);
                int mask = s.told(2);
                s.wipe();
                s.repeat('?', 5);
                Due.is("read " + text, text.length(), s.read());
                Due.is("fault", 0, s.fault());
                for (int i = 0; i < text.length(); i++) Due.is("byte of " + text, text.charAt(i), s.at(i));
                Due.is("behind " + text, NONE, s.at(text.length()));
                Due.is("level", level, s.reading(0));
                Due.is("mask", mask, s.reading(1));
                Due.is("put right", 0, s.reading(2));
                Due.is("segments", segments, s.reading(3));
                Due.is("told as before", version, s.told(0));
                Due.is("wiped", text.length(), s.wipe());
            }
        }
    }

    static void turnForm(SquareSymbols s, int side, int copy, int from, int to) {
        for (int i = from; i < to; i++) {
            int[] at = PlainSymbols.formPlace(copy, i, side);
            Due.is("form's module", 1, s.spoil(at[0], at[1], 1));
        }
    }

    /** Three modules of either form may be wrong; with four in the first one the second counts. */
    static void form() {
        for (int number = 0; number < 32; number++) {
            for (int at = 0; at < 12; at += 3) {
                SquareSymbols s = MakeTest.of("12");
                int level = number / 8;
                s.make(level, 2, number % 8);
                turnForm(s, 25, 0, at, at + 3);
                turnForm(s, 25, 1, 0, 15);
                Due.is("three wrong", 2, s.read());
                Due.is("level", level, s.reading(0));
                Due.is("mask", number % 8, s.reading(1));
                Due.is("form is no codeword", 0, s.reading(2));
                s.make(level, 2, number % 8);
                turnForm(s, 25, 0, at, at + 4);
                turnForm(s, 25, 1, at, at + 3);
                // Four away from its own word it may be three away from another one.
                if (isNear(number, at, at + 4)) continue;
                Due.is("the second form", 2, s.read());
                Due.is("the second form's mask", number % 8, s.reading(1));
                turnForm(s, 25, 1, at + 3, at + 4);
                Due.is("no form", NONE, s.read());
                Due.is("no form's fault", 1, s.fault());
                Due.is("no form's reading", NONE, s.reading(0));
            }
        }
        SquareSymbols s = new SquareSymbols();
        for (int version = 1; version <= 40; version++) {
            s.blank(version);
            Due.is("blank", NONE, s.read());
            Due.is("blank's fault", 1, s.fault());
        }
    }

    static boolean isNear(int number, int from, int to) {
        int level = number / 8;
        int word = PlainSymbols.formWord(8 * new int[] {1, 0, 3, 2}[level] + number % 8);
        for (int i = from; i < to; i++) word ^= 1 << i;
        for (int n = 0; n < 32; n++) if (Integer.bitCount(word ^ PlainSymbols.formWord(n)) <= 3) return true;
        return false;
    }

    /** The first form counts, even when it is another symbol's. */
    static void firstFormGoesFirst() {
        SquareSymbols s = MakeTest.of("FORM");
        s.make(0, 1, 0);
        int change = PlainSymbols.formWord(8 + 0) ^ PlainSymbols.formWord(8 + 5);
        for (int i = 0; i < 15; i++) {
            int[] at = PlainSymbols.formPlace(0, i, 21);
            s.spoil(at[0], at[1], change >> i & 1);
        }
        Due.is("another mask", NONE, s.read());
        Due.is("another mask's fault", 2, s.fault());
    }

    static void spoilCodewords(SquareSymbols s, int version, int level, int block, int count, int pattern) {
        List<int[]> way = PlainSymbols.way(PlainSymbols.fixed(version));
        List<int[]> order = PlainSymbols.order(level, version);
        int spoiled = 0;
        for (int k = order.size() - 1; k >= 0 && spoiled < count; k--) {
            if (order.get(k)[0] != block) continue;
            for (int bit = 0; bit < 8; bit++) {
                int[] at = way.get(8 * k + bit);
                if ((pattern >> (7 - bit) & 1) == 1) s.spoil(at[0], at[1], 1);
            }
            spoiled++;
        }
    }

    static void blocksPutRight() {
        for (int version = 1; version <= 40; version += version < 8 ? 1 : 8) {
            for (int level = 0; level < 4; level++) {
                int most = PlainSymbols.mendable(level, version);
                int last = PlainSymbols.BLOCKS[level][version - 1] - 1;
                SquareSymbols s = MakeTest.of("RIGHT");
                for (int wrong = 1; wrong <= most; wrong += wrong < 3 ? 1 : 3) {
                    s.make(level, version, 1);
                    spoilCodewords(s, version, level, last, wrong, 1 + 37 * wrong % 255);
                    s.wipe();
                    Due.is("read with " + wrong, 5, s.read());
                    Due.is("put right", wrong, s.reading(2));
                    Due.is("byte", 'R', s.at(0));
                    Due.is("byte", 'T', s.at(4));
                }
                s.make(level, version, 1);
                spoilCodewords(s, version, level, 0, most, 255);
                Due.is("read with the most", 5, s.read());
                Due.is("put right the most", most, s.reading(2));
                spoilCodewords(s, version, level, 0, most, 255);
                spoilCodewords(s, version, level, 0, most + 1, 129);
                Due.is("read with one more", NONE, s.read());
                Due.is("fault with one more", 2, s.fault());
                Due.is("reading with one more", NONE, s.reading(2));
            }
        }
    }

    /** Here fewer are put right than the check bytes would allow for. */
    static void versionsOfLessRight() {
        int[][] due = {{1, 0, 2}, {1, 1, 4}, {1, 2, 6}, {1, 3, 8}, {2, 0, 4}, {2, 1, 8}, {3, 0, 7}, {3, 1, 13}, {4, 0, 10}};
        for (int[] d : due) {
            SquareSymbols s = MakeTest.of("5");
            s.make(d[1], d[0], 0);
            spoilCodewords(s, d[0], d[1], 0, d[2], 77);
            Due.is("as many as are put right", 1, s.read());
            Due.is("so many", d[2], s.reading(2));
            spoilCodewords(s, d[0], d[1], 0, d[2], 77);
            spoilCodewords(s, d[0], d[1], 0, d[2] + 1, 77);
            Due.is("one too many", NONE, s.read());
            Due.is("one too many: fault", 2, s.fault());
        }
    }

    static void severalBlocks() {
        SquareSymbols s = new SquareSymbols();
        for (int i = 0; i < 39; i++) s.put(3, 0xc0ffeeL + 999 * i);
        s.make(3, 10, 4);
        int blocks = PlainSymbols.BLOCKS[3][9];
        for (int b = 0; b < blocks; b++) spoilCodewords(s, 10, 3, b, b, 3);
        s.wipe();
        Due.is("several blocks", 117, s.read());
        Due.is("several blocks put right", blocks * (blocks - 1) / 2, s.reading(2));
        Due.is("byte", 0xee, s.at(0));
        Due.is("byte", (0xc0ffee + 999 * 38) & 255, s.at(114));
        spoilCodewords(s, 10, 3, 5, 5, 3);
        spoilCodewords(s, 10, 3, 5, 15, 3);
        Due.is("one of several lost", NONE, s.read());
        Due.is("one of several lost: fault", 2, s.fault());
    }

    static SquareSymbols written(String bits, int level, int version) {
        SquareSymbols s = new SquareSymbols();
        s.put(2, 0x4142L);
        s.blank(version);
        AgainstPlainTest.show(PlainSymbols.symbolOf(bits, level, version, 5), s);
        return s;
    }

    static String text(int number, int width) {
        return PlainSymbols.text(number, width);
    }

    static void isRead(String what, String bits, int level, int version, String due, int segments) {
        SquareSymbols s = written(bits, level, version);
        Due.is(what + " read", due.length(), s.read());
        Due.is(what + " fault", 0, s.fault());
        Due.is(what + " segments", segments, s.reading(3));
        for (int i = 0; i < due.length(); i++) Due.is(what + " byte " + i, due.charAt(i), s.at(i));
        Due.is(what + " end", NONE, s.at(due.length()));
    }

    static void isFault(String what, String bits, int level, int version, int fault) {
        SquareSymbols s = written(bits, level, version);
        Due.is(what + " read", NONE, s.read());
        Due.is(what + " fault", fault, s.fault());
        Due.is(what + " reading", NONE, s.reading(3));
        Due.is(what + " data", 0x42, s.at(0));
        Due.is(what + " data", 0x41, s.at(1));
        Due.is(what + " data", NONE, s.at(2));
    }

    /** Segments that no make() would write. */
    static void writtenBits() {
        String none = "0001" + text(0, 10);
        isRead("nothing", "0000", 0, 1, "", 0);
        isRead("no digits", none, 0, 1, "", 1);
        isRead("no signs, no bytes", "0010" + text(0, 9) + "0100" + text(0, 8), 0, 1, "", 2);
        isRead("alike beside", "0100" + text(1, 8) + text('a', 8) + "0100" + text(1, 8) + text('b', 8), 0, 1, "ab", 2);
        isRead("digits as bytes", "0100" + text(2, 8) + text('1', 8) + text('2', 8), 0, 1, "12", 1);
        isRead("digits as signs", "0010" + text(3, 9) + text(46, 11) + text(2, 6), 0, 1, "112", 1);
        isRead("greatest numbers", "0001" + text(6, 10) + text(999, 10) + text(0, 10) + "0010" + text(3, 9) + text(2024, 11) + text(44, 6), 0, 1, "999000:::", 2);
        isRead("leading zeros", "0001" + text(5, 10) + text(7, 10) + text(3, 7), 0, 1, "00703", 1);
        isRead("one digit", "0001" + text(1, 10) + text(9, 4), 0, 1, "9", 1);
        // 152 bits at level 0: with 0 to 3 of them left, whatever these are, the segments end.
        for (int left = 0; left <= 3; left++) {
            StringBuilder bits = new StringBuilder();
            int segments = 0;
            while (152 - bits.length() != left) {
                int rest = 152 - bits.length() - left;
                // 14 bits, 13 bits and 12 bits: segments of no bytes.
                int width = rest % 12 == 0 ? 12 : rest % 12 <= rest / 12 ? 13 : 14;
                bits.append(width == 12 ? "0100" : width == 13 ? "0010" : "0001").append(text(0, width - 4));
                segments++;
            }
            for (int i = 0; i < left; i++) bits.append('1');
            isRead(left + " bits left", bits.toString(), 0, 1, "", segments);
        }
        isRead("the end is not looked behind", "0000" + "1111", 0, 1, "", 0);
    }

    static void faultsOfBits() {
        int[] modes = {3, 5, 6, 7, 8, 9, 10, 11, 12, 13, 14, 15};
        for (int m : modes) {
            isFault("mode " + m, text(m, 4), 0, 1, 3);
            isFault("mode " + m + " behind", "0001" + text(1, 10) + text(9, 4) + text(m, 4), 0, 1, 3);
        }
        // Level 3 of version 1 has 72 bits.
        isFault("bytes end", "0100" + text(8, 8) + text(0, 60), 3, 1, 4);
        isRead("bytes do not end", "0100" + text(7, 8) + text(0, 60), 3, 1, "\0\0\0\0\0\0\0", 1);
        isFault("digits end", "0001" + text(18, 10) + text(0, 58), 3, 1, 4);
        isRead("digits do not end", "0001" + text(17, 10) + text(0, 58), 3, 1, "00000000000000000", 1);
        isFault("signs end", "0010" + text(11, 9) + text(0, 59), 3, 1, 4);
        isRead("signs do not end", "0010" + text(10, 9) + text(0, 59), 3, 1, "0000000000", 1);
        String five = "0100" + text(5, 8) + text(0, 40);
        isFault("count ends", five + "0001" + text(0, 10) + "000100", 3, 1, 4);
        isFault("mode at the very end", "0001" + text(0, 10) + "0010" + text(0, 9) + "0010" + text(0, 9) + "0001" + text(0, 10) + "0001" + text(0, 10) + "0100", 3, 1, 4);
        isFault("mode that is none at the very end", "0001" + text(0, 10) + "0010" + text(0, 9) + "0010" + text(0, 9) + "0001" + text(0, 10) + "0001" + text(0, 10) + "0111", 3, 1, 3);
        isFault("three digits", "0001" + text(3, 10) + text(1000, 10), 0, 1, 5);
        isFault("three digits, most", "0001" + text(3, 10) + text(1023, 10), 0, 1, 5);
        isFault("two digits", "0001" + text(2, 10) + text(100, 7), 0, 1, 5);
        isFault("one digit", "0001" + text(1, 10) + text(10, 4), 0, 1, 5);
        isFault("two signs", "0010" + text(2, 9) + text(2025, 11), 0, 1, 5);
        isFault("one sign", "0010" + text(1, 9) + text(45, 6), 0, 1, 5);
        isRead("two digits", "0001" + text(2, 10) + text(99, 7), 0, 1, "99", 1);
    }

    static void faultsInOrder() {
        // What comes first in the bits is met first, though the bits would end later on.
        isFault("number, then end", "0001" + text(40, 10) + text(1000, 10) + text(0, 48), 3, 1, 5);
        isFault("number in the last group", "0001" + text(17, 10) + text(0, 50) + text(100, 7) + "0", 3, 1, 5);
        isFault("end, then nothing", "0001" + text(40, 10) + text(999, 10) + text(0, 48), 3, 1, 4);
        isFault("mode behind a segment", "0100" + text(0, 8) + "1111" + text(0, 8), 3, 1, 3);
        // A lost block goes before all of what its bits would be.
        SquareSymbols s = written("1111", 0, 1);
        spoilCodewords(s, 1, 0, 0, 3, 255);
        s.read();
        Due.is("lost block goes first", 2, s.fault());
    }

    static void tooMany() {
        // Version 40 has 14 bits for how many digits there are.
        isFault("more digits than 3000", "0001" + text(3001, 14), 0, 40, 6);
        isFault("more digits than bits", "0001" + text(16383, 14), 0, 40, 6);
        isFault("more signs than 3000", "0010" + text(3001, 13), 0, 40, 6);
        isFault("more bytes than 3000", "0100" + text(3001, 16), 0, 40, 6);
        isFault("bytes end, no more than 3000", "0100" + text(3000, 16), 0, 40, 4);
        isFault("too many before a number", "0001" + text(3001, 14) + text(1000, 10), 0, 40, 6);
        StringBuilder bits = new StringBuilder("0001" + text(3000, 14));
        for (int i = 0; i < 1000; i++) bits.append(text(i, 10));
        SquareSymbols s = written(bits.toString(), 0, 40);
        Due.is("just 3000", 3000, s.read());
        Due.is("last of 3000", '9', s.at(2999));
        isRead("none behind 3000", bits + "0100" + text(0, 16), 0, 40, digits(), 2);
        isFault("one behind 3000", bits + "0100" + text(1, 16) + text('a', 8), 0, 40, 6);
        // Less than 3000 in one, more in all; in a version whose counts are shorter.
        StringBuilder two = new StringBuilder("0001" + text(2000, 12));
        for (int i = 0; i < 666; i++) two.append(text(i, 10));
        two.append(text(12, 7));
        isFault("more than 3000 in all", two + "0001" + text(1001, 12) + text(1023, 10), 0, 26, 6);
        isFault("not more than 3000 in all", two + "0001" + text(1000, 12) + text(1023, 10), 0, 26, 5);
    }

    static String digits() {
        StringBuilder out = new StringBuilder();
        for (int i = 0; i < 1000; i++) out.append(String.format("%03d", i));
        return out.toString();
    }

    static void whatStays() {
        SquareSymbols s = MakeTest.of("stay");
        s.make(1, 3, 4);
        int[][] before = MakeTest.modules(s);
        s.wipe();
        s.put(1, 'x');
        Due.is("read", 4, s.read());
        Due.is("modules stay", 1, java.util.Arrays.deepEquals(before, MakeTest.modules(s)) ? 1 : 0);
        for (int y = 10; y < 20; y++) s.spoil(9, y, -1L);
        before = MakeTest.modules(s);
        Due.is("lost", NONE, s.read());
        Due.is("lost: fault", 2, s.fault());
        Due.is("modules stay", 1, java.util.Arrays.deepEquals(before, MakeTest.modules(s)) ? 1 : 0);
        Due.is("data stays", 's', s.at(0));
        Due.is("told stays", 3, s.told(0));
        Due.is("told stays", 1, s.segment(0, 0) == 2 ? 1 : 0);
        s.wipe();
        s.make(0, 1, 0);
        s.blank(5);
        Due.is("fault stays until the next read", 2, s.fault());
        Due.is("reading stays none", NONE, s.reading(0));
        Due.is("blank's read", NONE, s.read());
        Due.is("blank's fault", 1, s.fault());
        s.make(0, 1, 0);
        Due.is("fault still stays", 1, s.fault());
        Due.is("read again", 0, s.read());
        Due.is("no fault again", 0, s.fault());
    }

    static void reading() {
        SquareSymbols s = MakeTest.of("abc1234567890ABC");
        int[] wrong = {-1, 4, Integer.MIN_VALUE, Integer.MAX_VALUE};
        for (int w : wrong) Due.isRefused("reading " + w + " of nothing", () -> s.reading(w));
        s.make(2, 4, 6);
        for (int i = 0; i < 4; i++) Due.is("made, not read", NONE, s.reading(i));
        int segments = s.told(4);
        spoilCodewords(s, 4, 2, 1, 2, 8);
        s.read();
        int[] due = {2, 6, 2, segments};
        for (int i = 0; i < 4; i++) Due.is("reading " + i, due[i], s.reading(i));
        for (int w : wrong) Due.isRefused("reading " + w, () -> s.reading(w));
        s.wipe();
        s.make(0, 1, 0);
        s.blank(2);
        for (int i = 0; i < 4; i++) Due.is("reading stays " + i, due[i], s.reading(i));
        s.read();
        for (int i = 0; i < 4; i++) Due.is("reading of a fault " + i, NONE, s.reading(i));
        for (int w : wrong) Due.isRefused("reading " + w + " of a fault", () -> s.reading(w));
    }
}
