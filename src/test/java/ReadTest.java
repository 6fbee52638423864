import java.util.ArrayList;
import java.util.Arrays;
import java.util.List;

/** READING and its FAULTS, and promises 12, 13 and 14, sentence by sentence: read, fault, reading. */
public final class ReadTest {
    private static final int NONE = SquareSymbols.NONE;
    private static final int LEAST = Integer.MIN_VALUE;
    private static final int MOST = Integer.MAX_VALUE;

    public static void main(String[] args) {
        Due.all(
            ReadTest::versionOfSide, ReadTest::form, ReadTest::secondForm, ReadTest::formThatIsAnothers,
            ReadTest::blocksPutRight, ReadTest::lessPutRight, ReadTest::anotherCodeword, ReadTest::endOfSegments,
            ReadTest::widths, ReadTest::segmentsOfNone, ReadTest::firstFault, ReadTest::noForm, ReadTest::blockLost,
            ReadTest::noMode, ReadTest::bitsEnd, ReadTest::noNumber, ReadTest::tooMany, ReadTest::read,
            ReadTest::readNone, ReadTest::fault, ReadTest::reading, ReadTest::readingNone, ReadTest::readingRefused);
    }

    // ---- symbols that no make() would make ----

    static String text(int number, int width) {
        return PlainSymbols.text(number, width);
    }

    /** An object with the data BA, and a symbol of these bits under mask 5. */
    static SquareSymbols written(String bits, int level, int version) {
        SquareSymbols s = new SquareSymbols();
        s.put(2, 0x4142L);
        s.blank(version);
        AgainstPlainTest.show(PlainSymbols.symbolOf(bits, level, version, 5), s);
        return s;
    }

    static void isRead(String what, String bits, int level, int version, String due, int segments) {
        SquareSymbols s = written(bits, level, version);
        Due.is(what + ", read", due.length(), s.read());
        Due.is(what + ", fault", 0, s.fault());
        Due.is(what + ", segments", segments, s.reading(3));
        Due.isText(what + ", data", due, Made.data(s));
    }

    static void isFault(String what, String bits, int level, int version, int fault) {
        SquareSymbols s = written(bits, level, version);
        Due.is(what + ", read", NONE, s.read());
        Due.is(what + ", fault", fault, s.fault());
        Due.is(what + ", reading", NONE, s.reading(3));
        Due.isText(what + ", data", "BA", Made.data(s));
    }

    /** The modes of segments of no bytes that have so many bits in all. */
    static List<Integer> emptySegments(int bits, int version) {
        int[] last = new int[bits + 1];
        Arrays.fill(last, NONE);
        for (int n = 1; n <= bits; n++) {
            for (int mode = 0; mode < 3; mode++) {
                int before = n - 4 - PlainSymbols.countBits(mode, version);
                if (before == 0 || before > 0 && last[before] != NONE) last[n] = mode;
            }
        }
        List<Integer> out = new ArrayList<>();
        for (int n = bits; n > 0; n -= 4 + PlainSymbols.countBits(last[n], version)) out.add(last[n]);
        return out;
    }

    /** Bits that stand at the very end of a version at level 0, behind segments of no bytes. */
    static String atEnd(String bits, int version) {
        StringBuilder out = new StringBuilder();
        for (int mode : emptySegments(8 * PlainSymbols.holds(0, version) - bits.length(), version)) {
            out.append(text(1 << mode, 4)).append(text(0, PlainSymbols.countBits(mode, version)));
        }
        return out + bits;
    }

    /** How many segments of no bytes stand before these bits. */
    static int segmentsBefore(String bits, int version) {
        return emptySegments(8 * PlainSymbols.holds(0, version) - bits.length(), version).size();
    }

    /** Turns the last codewords of a block, each in the same way. */
    static void spoilCodewords(SquareSymbols s, int version, int level, int block, int count, int pattern) {
        int[] patterns = new int[count];
        Arrays.fill(patterns, pattern);
        spoilCodewords(s, version, level, block, patterns);
    }

    /** Turns the last codewords of a block, the last one by the first pattern. */
    static void spoilCodewords(SquareSymbols s, int version, int level, int block, int[] patterns) {
        List<int[]> way = PlainSymbols.way(PlainSymbols.fixed(version));
        List<int[]> order = PlainSymbols.order(level, version);
        int spoiled = 0;
        for (int k = order.size() - 1; k >= 0 && spoiled < patterns.length; k--) {
            if (order.get(k)[0] != block) continue;
            for (int bit = 0; bit < 8; bit++) {
                int[] at = way.get(8 * k + bit);
                s.spoil(at[0], at[1], patterns[spoiled] >> (7 - bit) & 1);
            }
            spoiled++;
        }
    }

    static void turnForm(SquareSymbols s, int side, int copy, int turned) {
        int[][] places = SymbolTest.formPlaces(copy, side);
        for (int i = 0; i < 15; i++) s.spoil(places[i][0], places[i][1], turned >> i & 1);
    }

    // ---- the terms ----

    static void versionOfSide() {
        Due.sentence("its version is that of its side.");
        for (int v = 1; v <= 40; v++) {
            SquareSymbols s = written("0100" + text(1, v < 10 ? 8 : 16) + text('v', 8), v % 4, v);
            // The version's word is not looked at.
            int side = 17 + 4 * v;
            if (v > 6) {
                for (int y = 0; y < 6; y++) s.spoil(side - 11, y, 7L);
                for (int y = side - 11; y < side - 8; y++) s.spoil(0, y, 63L);
            }
            Due.is("read", 1, s.read());
            Due.isText("data", "v", Made.data(s));
            Due.is("level", v % 4, s.reading(0));
            Due.is("put right", 0, s.reading(2));
        }
        // No fixed one is.
        SquareSymbols s = Made.of("fixed");
        s.make(1, 7, 3);
        int[][] fixed = PlainSymbols.fixed(7);
        for (int y = 0; y < 45; y++) {
            for (int x = 0; x < 45; x++) {
                if (fixed[y][x] == 0 || fixed[y][x] == 1) Due.is("spoil", 1, s.spoil(x, y, 1L));
            }
        }
        Due.is("read", s.wipe(), s.read());
        Due.isText("data", "fixed", Made.data(s));
        Due.is("put right", 0, s.reading(2));
    }

    /** The form number, as level and mask, that a word is no more than three from; NONE for none. */
    static int formNear(int word) {
        for (int form = 0; form < 32; form++) {
            if (Integer.bitCount(word ^ SymbolTest.FORMS[form]) <= 3) return form;
        }
        return NONE;
    }

    static void form() {
        Due.sentence("The FORM number is the one whose word of 15 bits differs in no more than three from the first fifteen;");
        for (int form = 0; form < 32; form++) {
            SquareSymbols s = Made.of("12");
            s.make(form / 8, 1, form % 8);
            // The second ones are as far off as they can be.
            turnForm(s, 21, 1, 0x7fff);
            for (int turned = 0; turned < 1 << 15; turned++) {
                if (Integer.bitCount(turned) > 3 || Integer.bitCount(turned) < 3 && form > 3) continue;
                turnForm(s, 21, 0, turned);
                Due.is("form " + form + " but for " + turned, 2, s.read());
                Due.is("level", form / 8, s.reading(0));
                Due.is("mask", form % 8, s.reading(1));
                Due.is("put right", 0, s.reading(2));
                turnForm(s, 21, 0, turned);
            }
        }
    }

    static void secondForm() {
        Due.sentence("if there is none, from the second ones.");
        int seconds = 0;
        int none = 0;
        for (int form = 0; form < 32; form += 5) {
            SquareSymbols s = Made.of("12");
            s.make(form / 8, 2, form % 8);
            for (int turned = 0; turned < 1 << 15; turned++) {
                if (Integer.bitCount(turned) != 4 || formNear(SymbolTest.FORMS[form] ^ turned) != NONE) continue;
                turnForm(s, 25, 0, turned);
                // Three of the second ones may be wrong, four may not.
                int three = turned & turned - 1;
                turnForm(s, 25, 1, three);
                Due.is("form " + form + " by the second ones", 2, s.read());
                Due.is("level", form / 8, s.reading(0));
                Due.is("mask", form % 8, s.reading(1));
                seconds++;
                turnForm(s, 25, 1, three ^ turned);
                Due.is("form " + form + " by none", NONE, s.read());
                Due.is("its fault", 1, s.fault());
                none++;
                turnForm(s, 25, 0, turned);
                turnForm(s, 25, 1, turned);
            }
        }
        Due.isSo("there are such", seconds > 1000 && none > 1000);
    }

    static void formThatIsAnothers() {
        Due.sentence("differs in no more than three from the first fifteen; if there is none, from the second ones. The mask is turned back");
        // The first form counts when it is any, though the second one is right.
        for (int form = 0; form < 32; form++) {
            int other = (form + 13) % 32;
            SquareSymbols s = Made.of("FORM");
            s.make(form / 8, 1, form % 8);
            turnForm(s, 21, 0, SymbolTest.FORMS[form] ^ SymbolTest.FORMS[other] ^ 0x1010);
            Due.is("another one's form", NONE, s.read());
            Due.is("its fault", 2, s.fault());
            // With none there, the second one counts.
            turnForm(s, 21, 0, 0x7fff ^ SymbolTest.FORMS[other] ^ 0x1010);
            Due.is("the second form", 4, s.read());
        }
        // The second one is not looked at when the first one is there.
        SquareSymbols s = written("0100" + text(1, 8) + text('q', 8), 2, 1);
        turnForm(s, 21, 1, 0x2b5c);
        Due.is("the first form alone", 1, s.read());
        Due.is("its level", 2, s.reading(0));
        Due.is("its mask", 5, s.reading(1));
    }

    static void blocksPutRight() {
        Due.sentence("The mask is turned back, the codewords are put into their blocks, and each block becomes the codeword (with its C) from which it differs in no more than (C - r) / 2 places, rounded down,");
        for (int v = 1; v <= 40; v++) {
            for (int level = 0; level < 4; level++) {
                int most = PlainSymbols.mendable(level, v);
                int blocks = PlainSymbols.BLOCKS[level][v - 1];
                String what = "version " + v + " level " + level;
                SquareSymbols s = Made.of("RIGHT");
                s.make(level, v, 1);
                for (int b = 0; b < blocks; b++) spoilCodewords(s, v, level, b, most, 1 + 37 * (b + v) % 255);
                s.wipe();
                Due.is(what + ", the most in all blocks", 5, s.read());
                Due.isText(what + ", data", "RIGHT", Made.data(s));
                Due.is(what + ", put right", most * blocks, s.reading(2));
                for (int b : new int[] {0, blocks - 1}) {
                    s.make(level, v, 1);
                    spoilCodewords(s, v, level, b, most + 1, 255);
                    Due.is(what + ", one more in block " + b, NONE, s.read());
                    Due.is(what + ", its fault", 2, s.fault());
                }
            }
        }
        // From one wrong codeword on, wherever it is and whatever is wrong of it.
        SquareSymbols s = Made.of("one");
        s.make(0, 1, 6);
        List<int[]> way = PlainSymbols.way(PlainSymbols.fixed(1));
        for (int[] at : way) {
            s.spoil(at[0], at[1], 1L);
            Due.is("one module wrong", 3, s.read());
            Due.is("one codeword put right", 1, s.reading(2));
            Due.isText("data", "one", Made.data(s));
            s.spoil(at[0], at[1], 1L);
        }
    }

    static void lessPutRight() {
        Due.sentence("r being 3, 2, 1, 1 for version 1 and level 0, 1, 2, 3, 2 for version 2 and level 0, 1 for version 3 and level 0, otherwise 0.");
        int[][] due = {{1, 0, 2}, {1, 1, 4}, {1, 2, 6}, {1, 3, 8}, {2, 0, 4}, {2, 1, 8}, {2, 2, 11}, {2, 3, 14},
            {3, 0, 7}, {3, 1, 13}, {3, 2, 9}, {3, 3, 11}, {4, 0, 10}, {4, 3, 8}, {5, 0, 13}};
        for (int[] d : due) {
            for (int pattern : new int[] {1, 77, 255}) {
                SquareSymbols s = Made.of("5");
                s.make(d[1], d[0], 0);
                spoilCodewords(s, d[0], d[1], 0, d[2], pattern);
                Due.is("version " + d[0] + " level " + d[1] + ", as many as are put right", 1, s.read());
                Due.is("so many", d[2], s.reading(2));
                spoilCodewords(s, d[0], d[1], 0, d[2], pattern);
                spoilCodewords(s, d[0], d[1], 0, d[2] + 1, pattern);
                Due.is("version " + d[0] + " level " + d[1] + ", one too many", NONE, s.read());
                Due.is("its fault", 2, s.fault());
            }
        }
    }

    static void anotherCodeword() {
        Due.sentence("and each block becomes the codeword (with its C)");
        // The codeword 1 and its check bytes, all of them not 0, is the way to another codeword.
        int[][] versions = {{1, 0}, {1, 1}, {1, 2}, {1, 3}, {2, 0}, {3, 0}, {3, 1}, {5, 0}, {4, 3}};
        for (int[] v : versions) {
            int checks = PlainSymbols.CHECKS[v[1]][v[0] - 1];
            int most = PlainSymbols.mendable(v[1], v[0]);
            int[] way = PlainSymbols.withChecks(new int[] {1}, checks);
            int[] back = new int[checks + 1];
            for (int i = 0; i <= checks; i++) back[i] = way[checks - i];
            for (int far = 0; far <= checks + 1; far++) {
                SquareSymbols s = Made.of("7");
                s.make(v[1], v[0], 2);
                spoilCodewords(s, v[0], v[1], 0, Arrays.copyOf(back, far));
                int near = Math.min(far, checks + 1 - far);
                String what = "version " + v[0] + " level " + v[1] + ", " + far + " on the way";
                Due.is(what, near <= most ? 1 : NONE, s.read());
                Due.is(what + ", put right", near <= most ? near : NONE, s.reading(2));
                Due.is(what + ", fault", near <= most ? 0 : 2, s.fault());
            }
        }
    }

    static void endOfSegments() {
        Due.sentence("Of the bytes of the blocks the segments are read: four bits, up to 0000, or up to where less than four are left;");
        isRead("the end at once", "0000", 0, 1, "", 0);
        isRead("the end is not looked behind", "0000" + "1111", 0, 1, "", 0);
        isRead("the end behind a segment", "0001" + text(1, 10) + text(8, 4) + "0000" + "0011", 0, 1, "8", 1);
        for (int v : new int[] {1, 10, 27}) {
            isRead("four bits 0 at the very end", atEnd("0000", v), 0, v, "", segmentsBefore("0000", v));
            isFault("four other bits at the very end", atEnd("0001", v), 0, v, 4);
            isFault("four other bits at the very end", atEnd("1000", v), 0, v, 3);
            for (String left : new String[] {"", "0", "1", "00", "01", "11", "000", "001", "010", "100", "111"}) {
                isRead("left are " + left, atEnd(left, v), 0, v, "", segmentsBefore(left, v));
            }
        }
        isRead("four bits 0 behind signs", "0010" + text(10, 9) + text(460, 11).repeat(5) + "0000", 3, 1, "A".repeat(10), 1);
    }

    static void widths() {
        Due.sentence("then how many, and the bytes");
        for (int[] w : new int[][] {{1, 10, 9, 8}, {9, 10, 9, 8}, {10, 12, 11, 16}, {26, 12, 11, 16}, {27, 14, 13, 16}, {40, 14, 13, 16}}) {
            String digits = "0001" + text(5, w[1]) + text(12, 10) + text(3, 7);
            String signs = "0010" + text(3, w[2]) + text(2024, 11) + text(44, 6);
            String bytes = "0100" + text(2, w[3]) + text(0, 8) + text(255, 8);
            isRead("in version " + w[0], digits + signs + bytes, 0, w[0], "01203:::\u0000\u00ff", 3);
            isRead("in version " + w[0], bytes + digits + signs, 0, w[0], "\u0000\u00ff01203:::", 3);
        }
        // What no make() would write, but is read.
        isRead("alike beside", "0100" + text(1, 8) + text('a', 8) + "0100" + text(1, 8) + text('b', 8), 0, 1, "ab", 2);
        isRead("digits as bytes", "0100" + text(2, 8) + text('1', 8) + text('2', 8), 0, 1, "12", 1);
        isRead("digits as signs", "0010" + text(3, 9) + text(46, 11) + text(2, 6), 0, 1, "112", 1);
        // As many as a width can tell in what there is room for.
        isFault("255 bytes", "0100" + text(255, 8) + text(65, 8).repeat(230), 0, 9, 4);
        isRead("552 digits", "0001" + text(552, 10) + text(999, 10).repeat(184), 0, 9, "9".repeat(552), 1);
    }

    static void segmentsOfNone() {
        Due.sentence("(a segment of 0 bytes is one, too).");
        isRead("no digits", "0001" + text(0, 10), 0, 1, "", 1);
        isRead("no signs", "0010" + text(0, 9), 0, 1, "", 1);
        isRead("no bytes", "0100" + text(0, 8), 0, 1, "", 1);
        isRead("none of all three", "0001" + text(0, 10) + "0010" + text(0, 9) + "0100" + text(0, 8), 0, 1, "", 3);
        isRead("none before some", "0100" + text(0, 8) + "0100" + text(1, 8) + text('x', 8), 0, 1, "x", 2);
        isRead("none behind some", "0100" + text(1, 8) + text('x', 8) + "0100" + text(0, 8), 0, 1, "x", 2);
        for (int v : new int[] {1, 9, 10, 26, 27, 40}) {
            isRead("as many as there is room for", atEnd("", v), 0, v, "", segmentsBefore("", v));
        }
    }

    // ---- the faults ----

    static void firstFault() {
        Due.sentence("FAULTS, the first one that is met:");
        // No form, and a block that is lost, and a mode that is none.
        SquareSymbols s = written("1111", 0, 1);
        spoilCodewords(s, 1, 0, 0, 3, 255);
        s.read();
        Due.is("a lost block before a mode that is none", 2, s.fault());
        turnForm(s, 21, 0, 0x7c1f);
        turnForm(s, 21, 1, 0x7c1f);
        s.read();
        Due.is("no form before a lost block", 1, s.fault());
        // What comes first in the bits is met first.
        isFault("number, then the end of the bits", "0001" + text(40, 10) + text(1000, 10) + text(0, 48), 3, 1, 5);
        isFault("the end of the bits", "0001" + text(40, 10) + text(999, 10) + text(0, 48), 3, 1, 4);
        isFault("number, then mode", "0001" + text(1, 10) + text(10, 4) + "1111", 0, 1, 5);
        isFault("mode, then number", "1111" + "0001" + text(1, 10) + text(10, 4), 0, 1, 3);
        isFault("mode, then the end of the bits", "0100" + text(0, 8) + "1111" + text(0, 8), 3, 1, 3);
        isFault("too many, then number", "0001" + text(3001, 14) + text(1000, 10), 0, 40, 6);
        isFault("number, then too many", "0001" + text(1, 14) + text(10, 4) + "0001" + text(3001, 14), 0, 40, 5);
        isFault("too many, then the end of the bits", "0001" + text(16383, 14), 0, 40, 6);
        isFault("the end of the bits, then nothing", "0100" + text(3000, 16), 0, 40, 4);
    }

    static void noForm() {
        Due.sentence("1 there is no FORM number;");
        SquareSymbols s = new SquareSymbols();
        for (int version = 1; version <= 40; version++) {
            s.blank(version);
            Due.is("blank", NONE, s.read());
            Due.is("blank's fault", 1, s.fault());
            Due.is("all dark is as far", NONE, formNear(0x7fff));
            turnForm(s, 17 + 4 * version, 0, 0x7fff);
            turnForm(s, 17 + 4 * version, 1, 0x7fff);
            Due.is("dark forms", NONE, s.read());
            Due.is("dark forms' fault", 1, s.fault());
        }
        // Each word that there is, in both places.
        s.blank(1);
        for (int word = 0; word < 1 << 15; word += 3) {
            turnForm(s, 21, 0, word);
            turnForm(s, 21, 1, word);
            s.read();
            Due.is("form " + word, formNear(word) == NONE ? 1 : 0, s.fault() == 1 ? 1 : 0);
            turnForm(s, 21, 0, word);
            turnForm(s, 21, 1, word);
        }
    }

    static void blockLost() {
        Due.sentence("2 a block (from the first one on) cannot be put right;");
        SquareSymbols s = new SquareSymbols();
        for (int i = 0; i < 39; i++) s.put(3, 0xc0ffeeL + 999 * i);
        String data = Made.data(s);
        s.make(3, 10, 4);
        int blocks = PlainSymbols.BLOCKS[3][9];
        for (int b = 0; b < blocks; b++) spoilCodewords(s, 10, 3, b, b, 3);
        s.wipe();
        Due.is("several blocks", 117, s.read());
        Due.is("put right in all", blocks * (blocks - 1) / 2, s.reading(2));
        Due.isText("data", data, Made.data(s));
        for (int b = 0; b < blocks; b++) {
            spoilCodewords(s, 10, 3, b, b, 3);
            spoilCodewords(s, 10, 3, b, 15, 3);
            Due.is("block " + b + " lost", NONE, s.read());
            Due.is("block " + b + " lost, fault", 2, s.fault());
            Due.isText("data stays", data, Made.data(s));
            spoilCodewords(s, 10, 3, b, 15, 3);
            spoilCodewords(s, 10, 3, b, b, 3);
        }
        for (int b = 0; b < blocks; b++) spoilCodewords(s, 10, 3, b, 20 + b, 129);
        Due.is("all blocks lost", NONE, s.read());
        Due.is("all blocks lost, fault", 2, s.fault());
    }

    static void noMode() {
        Due.sentence("3 a mode is none of the three;");
        for (int m = 1; m < 16; m++) {
            if (m == 1 || m == 2 || m == 4) continue;
            isFault("mode " + m, text(m, 4), 0, 1, 3);
            isFault("mode " + m + " behind a segment", "0001" + text(1, 10) + text(9, 4) + text(m, 4), 0, 1, 3);
            isFault("mode " + m + " at the very end", atEnd(text(m, 4), 1), 0, 1, 3);
            isFault("mode " + m + " in version 10", text(m, 4), 1, 10, 3);
            isFault("mode " + m + " in version 40", text(m, 4), 3, 40, 3);
        }
    }

    static void bitsEnd() {
        Due.sentence("4 the bits end within a segment;");
        for (int v : new int[] {1, 9, 10, 26, 27, 40}) {
            for (int mode = 0; mode < 3; mode++) {
                // Where it is told how many there are: all bits but one, and none.
                int width = PlainSymbols.countBits(mode, v);
                String sign = text(1 << mode, 4);
                isFault("mode " + mode + " alone", atEnd(sign, v), 0, v, 4);
                isFault("mode " + mode + ", a bit is lacking", atEnd(sign + text(0, width - 1), v), 0, v, 4);
                String whole = sign + text(0, width);
                isRead("mode " + mode + ", no bit is lacking", atEnd(whole, v), 0, v, "", 1 + segmentsBefore(whole, v));
            }
            // Mode, how many, and how many bits their groups have.
            int[][] groups = {{0, 1, 4}, {0, 2, 7}, {0, 3, 10}, {0, 4, 14}, {0, 5, 17}, {0, 6, 20}, {1, 1, 6}, {1, 2, 11}, {1, 3, 17}, {2, 1, 8}, {2, 2, 16}};
            for (int[] g : groups) {
                String sign = text(1 << g[0], 4) + text(g[1], PlainSymbols.countBits(g[0], v));
                String due = g[0] == 2 ? "\0".repeat(g[1]) : "0".repeat(g[1]);
                isRead(g[1] + " of mode " + g[0], atEnd(sign + text(0, g[2]), v), 0, v, due, 1 + segmentsBefore(sign + text(0, g[2]), v));
                isFault(g[1] + " of mode " + g[0] + ", a bit is lacking", atEnd(sign + text(0, g[2] - 1), v), 0, v, 4);
                isFault(g[1] + " of mode " + g[0] + ", all bits are lacking", atEnd(sign, v), 0, v, 4);
            }
        }
        // Check bytes are none of the bits.
        isRead("bytes up to the end", "0100" + text(7, 8) + text(0, 60), 3, 1, "\0".repeat(7), 1);
        isFault("bytes beyond the end", "0100" + text(8, 8) + text(0, 60), 3, 1, 4);
    }

    static void noNumber() {
        Due.sentence("5 a number that is no digits (1000, 100, 10 or more) or no signs (2025, 45 or more);");
        // Mode, how many, how many bits, the first number that is none, and what the one before is.
        String[][] due = {{"0", "3", "10", "1000", "999"}, {"0", "2", "7", "100", "99"}, {"0", "1", "4", "10", "9"},
            {"1", "2", "11", "2025", "::"}, {"1", "1", "6", "45", ":"}};
        for (String[] d : due) {
            int mode = Integer.parseInt(d[0]);
            int count = Integer.parseInt(d[1]);
            int width = Integer.parseInt(d[2]);
            int first = Integer.parseInt(d[3]);
            for (int v : new int[] {1, 10, 27}) {
                String sign = text(1 << mode, 4) + text(count, PlainSymbols.countBits(mode, v));
                isRead(d[4], sign + text(first - 1, width), 0, v, d[4], 1);
                isRead("0", sign + text(0, width), 0, v, "0".repeat(count), 1);
                for (int number : new int[] {first, first + 1, (1 << width) - 1}) {
                    isFault("number " + number, sign + text(number, width), 0, v, 5);
                    isFault("number " + number + " at the very end", atEnd(sign + text(number, width), v), 0, v, 5);
                }
            }
        }
        // In a later group, and in one that is left behind whole ones.
        isFault("second three digits", "0001" + text(6, 10) + text(999, 10) + text(1000, 10), 0, 1, 5);
        isFault("two digits left", "0001" + text(5, 10) + text(999, 10) + text(100, 7), 0, 1, 5);
        isFault("one digit left", "0001" + text(4, 10) + text(999, 10) + text(10, 4), 0, 1, 5);
        isFault("second two signs", "0010" + text(4, 9) + text(2024, 11) + text(2025, 11), 0, 1, 5);
        isFault("one sign left", "0010" + text(3, 9) + text(2024, 11) + text(45, 6), 0, 1, 5);
        for (int b = 0; b < 256; b++) isRead("byte " + b, "0100" + text(1, 8) + text(b, 8), 0, 1, Character.toString((char) b), 1);
    }

    static void tooMany() {
        Due.sentence("6 a segment with which there would be more than 3000 bytes (met when it is told how many it has).");
        isFault("3001 digits", "0001" + text(3001, 14), 0, 40, 6);
        isFault("16383 digits", "0001" + text(16383, 14), 0, 40, 6);
        isFault("3001 signs", "0010" + text(3001, 13), 0, 40, 6);
        isFault("8191 signs", "0010" + text(8191, 13), 0, 40, 6);
        isFault("3001 bytes", "0100" + text(3001, 16), 0, 40, 6);
        isFault("65535 bytes", "0100" + text(65535, 16), 0, 40, 6);
        isFault("65535 bytes in version 10", "0100" + text(65535, 16), 0, 10, 6);
        isFault("3001 digits in version 10", "0001" + text(3001, 12), 0, 10, 6);
        isFault("3000 digits in version 10", "0001" + text(3000, 12), 0, 10, 4);
        isFault("3000 bytes", "0100" + text(3000, 16), 0, 40, 4);
        isFault("at the very end", atEnd("0001" + text(3001, 14), 40), 0, 40, 6);
        String all = "0001" + text(3000, 14) + text(123, 10).repeat(1000);
        isRead("3000 digits", all, 0, 40, "123".repeat(1000), 1);
        isRead("3000 signs", "0010" + text(3000, 13) + text(460, 11).repeat(1500), 0, 40, "A".repeat(3000), 1);
        isRead("none behind 3000", all + "0100" + text(0, 16), 0, 40, "123".repeat(1000), 2);
        isFault("one behind 3000", all + "0100" + text(1, 16) + text('a', 8), 0, 40, 6);
        isFault("a digit behind 3000", all + "0001" + text(1, 14) + text(1, 4), 0, 40, 6);
        String but = "0001" + text(2999, 14) + text(123, 10).repeat(999) + text(12, 7);
        isRead("one behind 2999", but + "0100" + text(1, 16) + text('a', 8), 0, 40, "123".repeat(999) + "12a", 2);
        isFault("two behind 2999", but + "0100" + text(2, 16) + text('a', 8).repeat(2), 0, 40, 6);
        String two = "0001" + text(2000, 12) + text(7, 10).repeat(666) + text(12, 7);
        isFault("1001 behind 2000", two + "0001" + text(1001, 12) + text(1023, 10), 0, 26, 6);
        isFault("1000 behind 2000, then a number", two + "0001" + text(1000, 12) + text(1023, 10), 0, 26, 5);
    }

    // ---- the promises ----

    static void read() {
        Due.sentence("Reads the modules: the data becomes what is read (what was made last is told as before); how many bytes that are.");
        String[] texts = {"", "7", "42", "1234567", "A", "AB", "$%*+-./: ", "a", "\u0000\u00ff\u0080", "HTTP://X.ORG/a1b2?0123456789=X",
            "0".repeat(3000), "Z".repeat(3000), "\u00ff".repeat(2953)};
        for (String text : texts) {
            SquareSymbols s = Made.of(text);
            int version = s.make(0, 0, NONE);
            int[] told = new int[6];
            for (int i = 0; i < 6; i++) told[i] = s.told(i);
            String segments = Made.segments(s);
            long row = s.row(0, 12);
            s.wipe();
            s.repeat('?', 5);
            Due.is("read", text.length(), s.read());
            Due.isText("data", text, Made.data(s));
            for (int i = 0; i < 6; i++) Due.is("told " + i, told[i], s.told(i));
            Due.isText("segments", segments, Made.segments(s));
            Due.is("the modules stay", row, s.row(0, 12));
            Due.is("read again", text.length(), s.read());
            Due.is("level", 0, s.reading(0));
            Due.is("mask", told[2], s.reading(1));
            Due.is("data in all", text.length(), s.wipe());
            Due.is("version", version, s.told(0));
        }
        // Full data becomes none, and data behind what is read comes behind it.
        SquareSymbols s = new SquareSymbols();
        s.make(2, 0, 0);
        s.repeat(9, 3000);
        Due.is("read nothing", 0, s.read());
        Due.is("no data", NONE, s.at(0));
        Due.is("put behind it", 1, s.put(1, 65));
        // A spoiled one is put right in the data, not in its modules.
        s.make(2, 0, 0);
        spoilCodewords(s, 1, 2, 0, 4, 66);
        int[][] spoiled = Made.modules(s);
        Due.is("read", 1, s.read());
        Due.isSo("the modules stay spoiled", Arrays.deepEquals(spoiled, Made.modules(s)));
    }

    static void readNone() {
        Due.sentence("NONE when there is a fault, or no symbol: the data stays.");
        SquareSymbols none = Made.of("stay");
        Due.is("no symbol", NONE, none.read());
        Due.isText("data", "stay", Made.data(none));
        none.wipe();
        none.repeat(1, 3000);
        Due.is("no symbol, full", NONE, none.read());
        Due.is("data", 3000, none.wipe());
        String[] bits = {"1111", "0100" + text(255, 16), "0001" + text(3, 12) + text(1000, 10), "0001" + text(3001, 12)};
        int[] faults = {3, 4, 5, 6};
        // Some are read before the fault is met; none of these comes into the data.
        String before = "0100" + text(3, 16) + text(0x78797a, 24);
        for (int i = 0; i < 4; i++) {
            for (int level = 0; level < 4; level++) {
                SquareSymbols s = written(before + (i == 1 ? "0100" + text(2900, 16) : bits[i]), level, 10);
                Due.is("fault " + faults[i], NONE, s.read());
                Due.is("its number", faults[i], s.fault());
                Due.isText("data", "BA", Made.data(s));
            }
        }
        SquareSymbols s = Made.of("stay");
        s.make(1, 3, 4);
        for (int y = 10; y < 20; y++) s.spoil(9, y, -1L);
        int[][] lost = Made.modules(s);
        Due.is("a lost block", NONE, s.read());
        Due.isText("data", "stay", Made.data(s));
        Due.isSo("modules", Arrays.deepEquals(lost, Made.modules(s)));
        Due.is("what was made", 3, s.told(0));
        s.blank(5);
        Due.is("no form", NONE, s.read());
        Due.isText("data", "stay", Made.data(s));
    }

    static void fault() {
        Due.sentence("The fault that the last read() met, 1 .. 6; 0 when it met none, there was none, or no symbol.");
        SquareSymbols s = Made.of("f");
        Due.is("no read()", 0, s.fault());
        s.read();
        Due.is("no symbol", 0, s.fault());
        s.make(0, 1, 0);
        Due.is("no read() of a symbol", 0, s.fault());
        s.read();
        Due.is("none met", 0, s.fault());
        s.blank(1);
        Due.is("no other read()", 0, s.fault());
        s.read();
        Due.is("no form", 1, s.fault());
        Due.is("asked again", 1, s.fault());
        s.make(0, 1, 0);
        Due.is("made, not read", 1, s.fault());
        s.wipe();
        s.put(1, 'x');
        Due.is("other data", 1, s.fault());
        s.spoil(9, 9, -1L);
        s.spoil(9, 10, -1L);
        s.spoil(9, 11, -1L);
        s.read();
        Due.is("a lost block", 2, s.fault());
        s.blank(40);
        Due.is("blank, not read", 2, s.fault());
        String[] bits = {"1111", "0100" + text(3000, 16), "0001" + text(1, 14) + "1111", "0001" + text(3001, 14)};
        for (int i = 0; i < 4; i++) {
            s.blank(40);
            AgainstPlainTest.show(PlainSymbols.symbolOf(bits[i], 0, 40, 5), s);
            s.read();
            Due.is("fault of " + bits[i], 3 + i, s.fault());
        }
        s.make(0, 1, 0);
        s.read();
        Due.is("none met again", 0, s.fault());
    }

    static void reading() {
        Due.sentence("Of the last read() without a fault: level (what = 0), mask (1), how many codewords were put right in all blocks (2), how many segments there were (3);");
        SquareSymbols s = Made.of("abcdefgh1234567890");
        s.make(2, 4, 6);
        Due.is("segments made", 2, s.told(4));
        spoilCodewords(s, 4, 2, 0, 3, 8);
        spoilCodewords(s, 4, 2, 1, 2, 8);
        s.read();
        int[] due = {2, 6, 5, 2};
        for (int i = 0; i < 4; i++) Due.is("reading " + i, due[i], s.reading(i));
        s.wipe();
        s.make(0, 1, 0);
        s.blank(2);
        s.spoil(0, 0, -1L);
        for (int i = 0; i < 4; i++) Due.is("reading " + i + " of the last one", due[i], s.reading(i));
        for (int form = 0; form < 32; form++) {
            s.make(form / 8, 1, form % 8);
            s.read();
            int[] next = {form / 8, form % 8, 0, 0};
            for (int i = 0; i < 4; i++) Due.is("reading " + i + " of the next one", next[i], s.reading(i));
        }
        // Of what is read, not of what was made.
        s.make(0, 1, 2);
        // Turned by itself it is all light.
        AgainstPlainTest.show(Made.modules(s), s);
        AgainstPlainTest.show(PlainSymbols.symbolOf("0001" + text(0, 10) + "0100" + text(0, 8), 3, 1, 5), s);
        Due.is("made before", 0, s.told(1));
        s.read();
        int[] other = {3, 5, 0, 2};
        for (int i = 0; i < 4; i++) Due.is("reading " + i + " of another one", other[i], s.reading(i));
    }

    static void readingNone() {
        Due.sentence("NONE when the last one met a fault, or there was none.");
        SquareSymbols s = Made.of("none");
        for (int i = 0; i < 4; i++) Due.is("no read(), " + i, NONE, s.reading(i));
        s.read();
        for (int i = 0; i < 4; i++) Due.is("no symbol, " + i, NONE, s.reading(i));
        s.make(1, 1, 1);
        for (int i = 0; i < 4; i++) Due.is("made, not read, " + i, NONE, s.reading(i));
        s.read();
        for (int i = 0; i < 4; i++) Due.isSo("read, " + i, s.reading(i) != NONE);
        s.blank(2);
        s.read();
        for (int i = 0; i < 4; i++) Due.is("a fault, " + i, NONE, s.reading(i));
        s.make(1, 1, 1);
        for (int i = 0; i < 4; i++) Due.is("made behind a fault, " + i, NONE, s.reading(i));
        String[] bits = {"1111", "0100" + text(3000, 16), "0001" + text(1, 14) + "1111", "0001" + text(3001, 14)};
        for (String b : bits) {
            s.make(1, 1, 1);
            s.read();
            Due.is("read", 1, s.reading(0));
            s.blank(40);
            AgainstPlainTest.show(PlainSymbols.symbolOf(b, 0, 40, 5), s);
            s.read();
            for (int i = 0; i < 4; i++) Due.is("fault of " + b + ", " + i, NONE, s.reading(i));
        }
    }

    static void readingRefused() {
        Due.sentence("NONE when the last one met a fault, or there was none. IllegalArgumentException: another what.");
        SquareSymbols s = Made.of("12");
        for (int state = 0; state < 3; state++) {
            for (int w : new int[] {-1, 4, 5, LEAST, MOST}) Due.isRefused("reading " + w, () -> s.reading(w));
            if (state == 0) s.make(0, 0, 0);
            if (state == 1) s.blank(1);
            s.read();
        }
    }
}
