import java.nio.charset.StandardCharsets;
import java.util.Arrays;

/** Promises 6, 8 and 9: make, told, segment. */
public final class MakeTest {
    private static final int NONE = SquareSymbols.NONE;

    public static void main(String[] args) {
        standardExample();
        noData();
        refusals();
        fewestBytesThatDoNotFit();
        roomForTheEnd();
        spansOfVersions();
        leastPenalty();
        whatDoesNotFitChangesNothing();
        told();
        segment();
        orderOfDivisions();
        Due.end();
    }

    static SquareSymbols of(String text) {
        SquareSymbols s = new SquareSymbols();
        for (byte b : text.getBytes(StandardCharsets.ISO_8859_1)) s.repeat(b & 255, 1);
        return s;
    }

    static int[][] modules(SquareSymbols s) {
        int side = 17 + 4 * s.told(0);
        int[][] out = new int[side][side];
        for (int y = 0; y < side; y++) {
            for (int x = 0; x < side; x++) out[y][x] = (int) (s.row(x, y) & 1);
        }
        return out;
    }

    static void blocksAre(String what, SquareSymbols s, int[]... due) {
        int[][] got = PlainSymbols.blocksOf(modules(s), s.told(1), s.told(0), s.told(2));
        Due.is(what + " " + Arrays.deepToString(got), 1, Arrays.deepEquals(due, got) ? 1 : 0);
    }

    /** The digits 01234567 in version 1 at level 1, known from the standard of such symbols. */
    static void standardExample() {
        SquareSymbols s = of("01234567");
        Due.is("make", 1, s.make(1, 1, 2));
        blocksAre("codewords", s, new int[] {
            16, 32, 12, 86, 97, 128, 236, 17, 236, 17, 236, 17, 236, 17, 236, 17,
            165, 36, 212, 193, 237, 54, 199, 135, 44, 85});
        SquareSymbols signs = of("HELLO WORLD");
        Due.is("make signs", 1, signs.make(2, 0, 6));
        blocksAre("codewords of signs", signs, new int[] {
            32, 91, 11, 120, 209, 114, 220, 77, 67, 64, 236, 17, 236,
            168, 72, 22, 82, 217, 54, 156, 0, 46, 15, 180, 122, 16});
    }

    static void noData() {
        SquareSymbols s = new SquareSymbols();
        for (int version = 0; version <= 40; version++) {
            Due.is("empty", Math.max(1, version), s.make(version % 4, version, version % 8));
            Due.is("empty's segments", 0, s.told(4));
            Due.is("empty's bits", 0, s.told(5));
            Due.is("empty's segment", NONE, s.segment(0, 0));
        }
        s.make(0, 1, 0);
        int[] bytes = PlainSymbols.filled("", 0, 1);
        Due.is("empty's first byte", 0, bytes[0]);
        Due.is("empty's second byte", 236, bytes[1]);
        blocksAre("empty's codewords", s, PlainSymbols.withChecks(bytes, 7));
    }

    static void refusals() {
        SquareSymbols s = of("A");
        s.make(3, 2, 1);
        int[] edges = {Integer.MIN_VALUE, Integer.MAX_VALUE, -2};
        int[] levels = {-1, 4};
        int[] versions = {-1, 41};
        for (int l : levels) Due.isRefused("level " + l, () -> s.make(l, 0, 0));
        for (int v : versions) Due.isRefused("version " + v, () -> s.make(0, v, 0));
        Due.isRefused("mask 8", () -> s.make(0, 0, 8));
        for (int e : edges) {
            Due.isRefused("level " + e, () -> s.make(e, 0, 0));
            Due.isRefused("version " + e, () -> s.make(0, e, 0));
            Due.isRefused("mask " + e, () -> s.make(0, 0, e));
        }
        Due.is("refused: told", 2, s.told(0));
        Due.is("refused: level", 3, s.told(1));
        Due.is("refused: mask", 1, s.told(2));
        s.repeat('a', 2999);
        Due.is("does not fit", NONE, s.make(0, 0, 0));
        Due.isRefused("does not fit, mask", () -> s.make(0, 0, 8));
        Due.isRefused("does not fit, level", () -> s.make(4, 0, 0));
        Due.isRefused("does not fit, version", () -> s.make(0, 41, 0));
    }

    /** How many digits, signs and bytes a version has at the levels 0 to 3, from the standard. */
    static void fewestBytesThatDoNotFit() {
        int[][] most = {
            {1, 41, 34, 27, 17, 25, 20, 16, 10, 17, 14, 11, 7},
            {2, 77, 63, 48, 34, 47, 38, 29, 20, 32, 26, 20, 14},
            {9, 552, 432, 312, 235, 335, 262, 189, 143, 230, 180, 130, 98},
            {10, 652, 513, 364, 288, 395, 311, 221, 174, 271, 213, 151, 119},
            {26, 9999, 2544, 1804, 1425, 1990, 1542, 1094, 864, 1367, 1059, 751, 593},
            {27, 9999, 2701, 1933, 1501, 2132, 1637, 1172, 910, 1465, 1125, 805, 625},
            {40, 9999, 9999, 9999, 9999, 9999, 9999, 2420, 1852, 2953, 2331, 1663, 1273},
        };
        int[] bytes = {'0', 'Z', 'z'};
        for (int[] m : most) {
            for (int mode = 0; mode < 3; mode++) {
                for (int level = 0; level < 4; level++) {
                    int n = m[1 + 4 * mode + level];
                    if (n > 2999) continue;
                    String what = "version " + m[0] + " mode " + mode + " level " + level;
                    SquareSymbols s = new SquareSymbols();
                    s.repeat(bytes[mode], n);
                    Due.is(what + " least", m[0], s.make(level, 0, 0));
                    Due.is(what + " given", m[0], s.make(level, m[0], 0));
                    Due.is(what + " segments", 1, s.told(4));
                    Due.is(what + " mode", mode, s.segment(0, 0));
                    Due.is(what + " length", n, s.segment(0, 1));
                    Due.is(what + " version before", NONE, m[0] == 1 ? NONE : s.make(level, m[0] - 1, 0));
                    s.repeat(bytes[mode], 1);
                    Due.is(what + " one more", NONE, s.make(level, m[0], 0));
                    Due.is(what + " one more, least", m[0] == 40 ? NONE : m[0] + 1, s.make(level, 0, 0));
                }
            }
        }
    }

    /** From no bit left over to more than four. */
    static void roomForTheEnd() {
        String[] texts = {
            "0123456789012345678901234567890123",
            "01234567890123456789012345678901234567890",
            "ABCDEFGHIJKLMNOPQRST", "0123456789ABCDEFGHIJKLMNO",
            "abcdefghijklmn", "abcdefghijklm", "0123456789012345678901234567890",
        };
        int[] levels = {1, 0, 1, 0, 1, 1, 1};
        for (int i = 0; i < texts.length; i++) {
            SquareSymbols s = of(texts[i]);
            PlainSymbols plain = new PlainSymbols();
            for (char c : texts[i].toCharArray()) plain.repeat(c, 1);
            Due.is("end " + i, 1, s.make(levels[i], 1, 0));
            plain.make(levels[i], 1, 0);
            for (int y = 0; y < 21; y++) Due.is("end " + i + " row " + y, plain.row(0, y), s.row(0, y));
            s.wipe();
            Due.is("end " + i + " read", texts[i].length(), s.read());
            for (int c = 0; c < texts[i].length(); c++) Due.is("end " + i, texts[i].charAt(c), s.at(c));
        }
    }

    /** The bits of the same data, and so its division, differ from span to span. */
    static void spansOfVersions() {
        SquareSymbols s = of("a123456b");
        int[] versions = {1, 9, 10, 26, 27, 40};
        for (int v : versions) {
            Due.is("span", v, s.make(0, v, 0));
            int whole = 4 + PlainSymbols.countBits(2, v) + 64;
            int parts = 2 * (4 + PlainSymbols.countBits(2, v) + 8) + 4 + PlainSymbols.countBits(0, v) + 20;
            Due.is("span's bits", Math.min(whole, parts), s.told(5));
            Due.is("span's segments", whole <= parts ? 1 : 3, s.told(4));
        }
        SquareSymbols digits = of("abcd1234567");
        digits.make(0, 9, 0);
        Due.is("two segments", 2, digits.told(4));
        Due.is("bits in version 9", 12 + 32 + 14 + 24, digits.told(5));
        digits.make(0, 10, 0);
        Due.is("bits in version 10", 20 + 32 + 16 + 24, digits.told(5));
        digits.make(0, 27, 0);
        Due.is("bits in version 27", 20 + 32 + 18 + 24, digits.told(5));
    }

    static void leastPenalty() {
        int ties = 0;
        for (int i = 0; i < 1200; i++) {
            SquareSymbols s = of(Integer.toString(i * 7919));
            int level = i % 4;
            int best = NONE;
            int least = Integer.MAX_VALUE;
            int times = 0;
            for (int k = 0; k < 8; k++) {
                s.make(level, 0, k);
                if (i % 40 == 0) Due.is("penalty", PlainSymbols.penalty(modules(s)), s.told(3));
                times = s.told(3) == least ? times + 1 : s.told(3) < least ? 1 : times;
                if (s.told(3) < least) {
                    least = s.told(3);
                    best = k;
                }
            }
            if (times > 1) ties++;
            s.make(level, 0, NONE);
            Due.is("mask of least penalty", best, s.told(2));
            Due.is("least penalty", least, s.told(3));
            int[][] chosen = modules(s);
            s.make(level, 0, best);
            Due.is("the same symbol", 1, Arrays.deepEquals(chosen, modules(s)) ? 1 : 0);
        }
        Due.is("some ties were met", 1, ties > 5 ? 1 : 0);
    }

    static void whatDoesNotFitChangesNothing() {
        SquareSymbols s = of("ABC123abc");
        s.make(2, 0, NONE);
        int[][] before = modules(s);
        int[] told = new int[6];
        for (int i = 0; i < 6; i++) told[i] = s.told(i);
        int mode = s.segment(0, 0);
        int length = s.segment(0, 1);
        s.repeat(' ', 900);
        s.repeat('a', 900);
        Due.is("does not fit in 1", NONE, s.make(0, 1, 0));
        Due.is("does not fit at all", NONE, s.make(3, 0, 0));
        for (int i = 0; i < 6; i++) Due.is("told as before", told[i], s.told(i));
        Due.is("segment as before", mode, s.segment(0, 0));
        Due.is("segment as before", length, s.segment(0, 1));
        Due.is("modules as before", 1, Arrays.deepEquals(before, modules(s)) ? 1 : 0);
        Due.is("data as before", 1810, s.repeat('x', 1));
    }

    static void told() {
        SquareSymbols s = of("0123456789");
        int[] wrong = {-1, 6, Integer.MIN_VALUE, Integer.MAX_VALUE};
        for (int w : wrong) Due.isRefused("told " + w + " of nothing", () -> s.told(w));
        Due.is("told of nothing", NONE, s.told(5));
        s.make(3, 5, 6);
        int[] due = {5, 3, 6, PlainSymbols.penalty(modules(s)), 1, 4 + 10 + 34};
        for (int i = 0; i < 6; i++) Due.is("told " + i, due[i], s.told(i));
        for (int w : wrong) Due.isRefused("told " + w, () -> s.told(w));
        s.wipe();
        s.put(1, 'a');
        s.spoil(0, 0, -1L);
        s.read();
        for (int i = 0; i < 6; i++) Due.is("told again " + i, due[i], s.told(i));
        s.make(0, 0, 7);
        Due.is("told of the last one", 1, s.told(0));
        Due.is("told of the last one", 7, s.told(2));
        s.blank(3);
        Due.is("told of blank", NONE, s.told(0));
        s.make(1, 4, 2);
        Due.is("told behind blank", 4, s.told(0));
    }

    static void segment() {
        SquareSymbols s = of("abcdefghij0123456789KLMNOPQRSTUVWXYZ");
        int[] wrong = {-1, 2, Integer.MIN_VALUE, Integer.MAX_VALUE};
        for (int w : wrong) Due.isRefused("segment of nothing", () -> s.segment(0, w));
        s.make(0, 0, 0);
        int[][] due = {{2, 10}, {0, 10}, {1, 16}};
        Due.is("segments", 3, s.told(4));
        for (int i = 0; i < 3; i++) {
            Due.is("segment's mode", due[i][0], s.segment(i, 0));
            Due.is("segment's length", due[i][1], s.segment(i, 1));
        }
        int[] none = {3, -1, 1074, Integer.MIN_VALUE, Integer.MAX_VALUE};
        for (int i : none) {
            Due.is("no segment", NONE, s.segment(i, 0));
            Due.is("no segment", NONE, s.segment(i, 1));
            Due.isRefused("no segment, wrong", () -> s.segment(i, 2));
        }
        for (int w : wrong) Due.isRefused("segment's " + w, () -> s.segment(0, w));
        s.wipe();
        Due.is("segment stays", 2, s.segment(0, 0));
        s.make(0, 0, 0);
        Due.is("segment of no data", NONE, s.segment(0, 0));
    }

    /** Of those with the fewest bits the first in the order of modes. */
    static void orderOfDivisions() {
        // All divisions, one by one, of data whose bits tie between two divisions.
        String[] texts = {"A1234567890123", "ab1234cd", "AAAAAA1234567a", "aAAAAAAA", "AAAAAAAa", "1AAAAAAAAa1", "12345678A"};
        for (String text : texts) {
            SquareSymbols s = of(text);
            for (int v : new int[] {5, 15, 35}) {
                s.make(0, v, 0);
                int[] best = null;
                int n = text.length();
                for (int code = 0; code < Math.pow(3, n); code++) {
                    int[] modes = new int[n];
                    boolean allowed = true;
                    for (int i = n - 1, c = code; i >= 0; i--, c /= 3) {
                        modes[i] = c % 3;
                        allowed &= PlainSymbols.isOfMode(text.charAt(i), modes[i]);
                    }
                    if (allowed && (best == null || PlainSymbols.bits(modes, v) < PlainSymbols.bits(best, v))) best = modes;
                }
                int at = 0;
                for (int[] segment : PlainSymbols.segments(best)) {
                    Due.is(text + " mode " + at, segment[0], s.segment(at, 0));
                    Due.is(text + " length " + at, segment[1], s.segment(at, 1));
                    at++;
                }
                Due.is(text + " segments", at, s.told(4));
                Due.is(text + " bits", PlainSymbols.bits(best, v), s.told(5));
            }
        }
    }
}
