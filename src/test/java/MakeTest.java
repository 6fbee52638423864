import java.util.Arrays;

/** Promises 6, 8 and 9, sentence by sentence: make, told, segment. */
public final class MakeTest {
    private static final int NONE = SquareSymbols.NONE;
    private static final int LEAST = Integer.MIN_VALUE;
    private static final int MOST = Integer.MAX_VALUE;

    public static void main(String[] args) {
        Due.all(
            MakeTest::levelsAndVersions, MakeTest::leastVersion, MakeTest::leastPenalty, MakeTest::givenMask,
            MakeTest::doesNotFit, MakeTest::makeRefused, MakeTest::told, MakeTest::toldOfNone,
            MakeTest::toldRefused, MakeTest::segment, MakeTest::noSuchSegment, MakeTest::segmentRefused);
    }

    static void levelsAndVersions() {
        Due.sentence("Makes the symbol of the data, at a level, in a version");
        for (int v = 1; v <= 40; v++) {
            for (int level = 0; level < 4; level++) {
                SquareSymbols s = Made.of("a1B");
                Due.is("make", v, s.make(level, v, 3));
                Due.is("level", level, s.told(1));
                int[][] due = PlainSymbols.symbolOf(PlainSymbols.written(Arrays.asList(97, 49, 66),
                    PlainSymbols.segments(new int[] {2, 2, 2}), v), level, v, 3);
                Due.isSo("version " + v + " level " + level, Arrays.deepEquals(due, Made.modules(s)));
                Due.is("data stays", 3, s.wipe());
            }
        }
        // Of the data that there is, not of what was made before.
        SquareSymbols s = Made.of("first");
        s.make(0, 3, 0);
        s.wipe();
        Made.add(s, "2nd");
        s.make(0, 1, 0);
        Due.is("read", s.wipe(), s.read());
        Due.isText("what is read", "2nd", Made.data(s));
        Due.is("nothing of the greater symbol", 0, s.row(21, 3) | s.row(0, 21) | s.row(0, 28));
    }

    static void leastVersion() {
        Due.sentence("(0: the least one in which it fits)");
        // How many digits, signs and bytes a version has at the levels 0 to 3, from the standard.
        int[][] most = {
            {1, 41, 34, 27, 17, 25, 20, 16, 10, 17, 14, 11, 7},
            {2, 77, 63, 48, 34, 47, 38, 29, 20, 32, 26, 20, 14},
            {9, 552, 432, 312, 235, 335, 262, 189, 143, 230, 180, 130, 98},
            {10, 652, 513, 364, 288, 395, 311, 221, 174, 271, 213, 151, 119},
            {26, 9999, 2544, 1804, 1425, 1990, 1542, 1094, 864, 1367, 1059, 751, 593},
            {27, 9999, 2701, 1933, 1501, 2132, 1637, 1172, 910, 1465, 1125, 805, 625},
            {39, 9999, 9999, 9999, 2927, 9999, 9999, 2298, 1774, 2809, 2213, 1579, 1219},
            {40, 9999, 9999, 9999, 9999, 9999, 9999, 2420, 1852, 2953, 2331, 1663, 1273},
        };
        int[] bytes = {'0', 'Z', 'z'};
        for (int[] m : most) {
            for (int i = 1; i <= 12; i++) {
                int level = (i - 1) % 4;
                int n = m[i];
                if (n > 2999) continue;
                String what = "version " + m[0] + " level " + level + " with " + n;
                SquareSymbols s = new SquareSymbols();
                s.repeat(bytes[(i - 1) / 4], n);
                Due.is(what, m[0], s.make(level, 0, 0));
                Due.is(what + ", the version before", NONE, m[0] == 1 ? NONE : s.make(level, m[0] - 1, 0));
                s.repeat(bytes[(i - 1) / 4], 1);
                Due.is(what + " and one more", m[0] == 40 ? NONE : m[0] + 1, s.make(level, 0, 0));
            }
        }
        SquareSymbols s = new SquareSymbols();
        for (int level = 0; level < 4; level++) Due.is("no data", 1, s.make(level, 0, 0));
    }

    static void leastPenalty() {
        Due.sentence("with a mask (NONE: of those with the least penalty the one with the least number).");
        int[] chosen = new int[8];
        int ties = 0;
        for (int i = 0; i < 1200; i++) {
            SquareSymbols s = Made.of(Integer.toString(i * 7919));
            int level = i % 4;
            int[] penalties = new int[8];
            for (int k = 0; k < 8; k++) {
                s.make(level, 0, k);
                penalties[k] = s.told(3);
            }
            int least = Arrays.stream(penalties).min().getAsInt();
            int first = 0;
            while (penalties[first] != least) first++;
            chosen[first]++;
            ties += Arrays.stream(penalties).filter(p -> p == least).count() > 1 ? 1 : 0;
            s.make(level, 0, NONE);
            Due.is("mask", first, s.told(2));
            Due.is("penalty", least, s.told(3));
            int[][] best = Made.modules(s);
            s.make(level, 0, first);
            Due.isSo("the symbol of that mask", Arrays.deepEquals(best, Made.modules(s)));
        }
        Due.isSo("some are alike in penalty", ties > 5);
        for (int k = 0; k < 8; k++) Due.isSo("mask " + k + " was chosen", chosen[k] > 0);
        // Of no data, and as much as there can be.
        SquareSymbols s = new SquareSymbols();
        for (int size : new int[] {0, 2953}) {
            s.repeat('z', size);
            Due.isSo("make", s.make(0, 0, NONE) != NONE);
            int mask = s.told(2);
            int penalty = s.told(3);
            for (int k = 0; k < 8; k++) {
                s.make(0, 0, k);
                Due.isSo("mask " + k, k < mask ? s.told(3) > penalty : s.told(3) >= penalty);
            }
        }
    }

    static void givenMask() {
        Due.sentence("(what = 0), level (1), mask (2), penalty (3)");
        for (int k = 0; k < 8; k++) {
            SquareSymbols s = Made.of("MASK");
            Due.is("make", 1, s.make(2, 0, k));
            Due.is("mask", k, s.told(2));
            Due.is("penalty", PlainSymbols.penalty(Made.modules(s)), s.told(3));
            s.read();
            Due.is("mask that is read", k, s.reading(1));
        }
    }

    static void doesNotFit() {
        Due.sentence("Answers the version; NONE when it doesn't fit.");
        int[][] most = {{1, 17, 14, 11, 7}, {9, 230, 180, 130, 98}, {10, 271, 213, 151, 119}, {40, 2953, 2331, 1663, 1273}};
        for (int[] m : most) {
            for (int level = 0; level < 4; level++) {
                SquareSymbols s = new SquareSymbols();
                s.repeat('z', m[1 + level]);
                for (int mask = NONE; mask < 8; mask += 4) Due.is("fits", m[0], s.make(level, m[0], mask));
                s.repeat('z', 1);
                for (int mask = NONE; mask < 8; mask += 4) Due.is("does not fit", NONE, s.make(level, m[0], mask));
            }
        }
        SquareSymbols s = new SquareSymbols();
        s.repeat('z', 3000);
        for (int level = 0; level < 4; level++) {
            for (int v = 0; v <= 40; v++) Due.is("3000 bytes in version " + v, NONE, s.make(level, v, NONE));
        }
        Due.is("nothing is told", NONE, s.told(0));
        Due.is("no symbol", 0, s.spoil(0, 0, -1L));
        s.wipe();
        Due.is("no data fits", 40, s.make(3, 40, 7));
    }

    static void makeRefused() {
        Due.sentence("IllegalArgumentException: level is not 0 .. 3, version not 0 .. 40, or mask not NONE or 0 .. 7.");
        for (int size : new int[] {0, 1, 3000}) {
            SquareSymbols s = new SquareSymbols();
            s.repeat('r', size);
            for (int l : new int[] {-1, 4, NONE, 5, LEAST, MOST}) Due.isRefused("level " + l, () -> s.make(l, 0, 0));
            for (int v : new int[] {-1, 41, NONE, LEAST, MOST}) Due.isRefused("version " + v, () -> s.make(0, v, 0));
            for (int k : new int[] {-2, 8, LEAST, MOST}) Due.isRefused("mask " + k, () -> s.make(0, 0, k));
            Due.isRefused("level and version", () -> s.make(4, 41, 0));
            Due.isRefused("version and mask", () -> s.make(3, 41, 8));
            Due.isRefused("all", () -> s.make(-1, -1, -2));
            Due.is("nothing was made", NONE, s.told(0));
            if (size == 3000) continue;
            for (int l = 0; l < 4; l++) Due.is("level " + l, 1, s.make(l, 0, 0));
            Due.is("version 1", 1, s.make(0, 1, 0));
            Due.is("version 40", 40, s.make(0, 40, 0));
            for (int k = NONE; k < 8; k++) Due.is("mask " + k, 1, s.make(0, 0, k));
        }
    }

    static void told() {
        Due.sentence("Of what was made last, unless blank() came later: version (what = 0), level (1), mask (2), penalty (3), how many segments (4), how many bits these have (5);");
        SquareSymbols s = Made.of("0123456789abcdefghij");
        s.make(3, 5, 6);
        int[] due = {5, 3, 6, PlainSymbols.penalty(Made.modules(s)), 2, 14 + 34 + 12 + 80};
        for (int i = 0; i < 6; i++) Due.is("told " + i, due[i], s.told(i));
        s.wipe();
        s.put(1, 'a');
        for (int i = 0; i < 6; i++) Due.is("told " + i + " with other data", due[i], s.told(i));
        s.spoil(0, 0, -1L);
        for (int i = 0; i < 6; i++) Due.is("told " + i + " of a spoiled one", due[i], s.told(i));
        s.read();
        for (int i = 0; i < 6; i++) Due.is("told " + i + " of what was read", due[i], s.told(i));
        s.wipe();
        s.put(1, 'a');
        s.make(0, 0, 7);
        int[] next = {1, 0, 7, PlainSymbols.penalty(Made.modules(s)), 1, 20};
        for (int i = 0; i < 6; i++) Due.is("told " + i + " of the next one", next[i], s.told(i));
        s.repeat('a', 2999);
        Due.is("does not fit", NONE, s.make(1, 0, 0));
        for (int i = 0; i < 6; i++) Due.is("told " + i + " of the last that was made", next[i], s.told(i));
    }

    static void toldOfNone() {
        Due.sentence("how many bits these have (5); NONE when there is none.");
        SquareSymbols s = Made.of("12");
        for (int i = 0; i < 6; i++) Due.is("nothing made, told " + i, NONE, s.told(i));
        s.blank(3);
        for (int i = 0; i < 6; i++) Due.is("blank alone, told " + i, NONE, s.told(i));
        s.make(1, 4, 2);
        Due.is("made behind blank", 4, s.told(0));
        s.blank(3);
        for (int i = 0; i < 6; i++) Due.is("blank came later, told " + i, NONE, s.told(i));
        s.repeat('a', 2998);
        Due.is("does not fit", NONE, s.make(0, 0, 0));
        for (int i = 0; i < 6; i++) Due.is("nothing made behind blank, told " + i, NONE, s.told(i));
    }

    static void toldRefused() {
        Due.sentence("NONE when there is none. IllegalArgumentException: another what.");
        SquareSymbols s = Made.of("12");
        for (int state = 0; state < 3; state++) {
            for (int w : new int[] {-1, 6, 7, LEAST, MOST}) Due.isRefused("told " + w, () -> s.told(w));
            if (state == 0) s.make(0, 0, 0);
            if (state == 1) s.blank(1);
        }
    }

    static void segment() {
        Due.sentence("Of segment i of what was made last, unless blank() came later: its mode (what = 0), how many bytes it has (1);");
        SquareSymbols s = Made.of("abcdefghij0123456789KLMNOPQRSTUVWXYZ");
        s.make(0, 0, 0);
        Due.isText("segments", "2:10 0:10 1:16", Made.segments(s));
        s.wipe();
        s.put(3, 0x414141L);
        Due.isText("segments with other data", "2:10 0:10 1:16", Made.segments(s));
        s.spoil(0, 9, -1L);
        s.read();
        Due.isText("segments of a spoiled one", "2:10 0:10 1:16", Made.segments(s));
        s.wipe();
        s.repeat('5', 3000);
        s.make(0, 0, 0);
        Due.isText("one of 3000", "0:3000", Made.segments(s));
        s.repeat('5', 1);
        Due.is("does not fit", NONE, s.make(3, 1, 0));
        Due.isText("segments of the last that was made", "0:3000", Made.segments(s));
        // 3000 bytes in many segments: with fewer digits between two bytes there would be one.
        s.wipe();
        for (int i = 0; i < 300; i++) {
            s.repeat('7', 9);
            s.repeat('q', 1);
        }
        Due.is("many segments fit", 40, s.make(0, 0, 0));
        Due.is("many segments", 600, s.told(4));
        for (int i = 0; i < 600; i++) {
            Due.is("mode", i % 2 == 0 ? 0 : 2, s.segment(i, 0));
            Due.is("length", i % 2 == 0 ? 9 : 1, s.segment(i, 1));
        }
        Due.is("behind them", NONE, s.segment(600, 0));
    }

    static void noSuchSegment() {
        Due.sentence("how many bytes it has (1); NONE when there is none such.");
        SquareSymbols s = Made.of("abcdefghij0123456789");
        int[] none = {2, 3, -1, -2, 1073, 1074, 3000, LEAST, MOST};
        for (int what = 0; what < 2; what++) {
            Due.is("nothing made", NONE, s.segment(0, what));
            s.make(0, 0, 0);
            Due.isSo("the first", s.segment(0, what) != NONE);
            Due.isSo("the last", s.segment(1, what) != NONE);
            for (int i : none) Due.is("segment " + i, NONE, s.segment(i, what));
            s.blank(2);
            Due.is("blank came later", NONE, s.segment(0, what));
        }
        s.wipe();
        s.make(0, 0, 0);
        Due.is("of no data", NONE, s.segment(0, 0));
    }

    static void segmentRefused() {
        Due.sentence("NONE when there is none such. IllegalArgumentException: another what.");
        SquareSymbols s = Made.of("12");
        for (int state = 0; state < 3; state++) {
            for (int w : new int[] {-1, 2, 3, LEAST, MOST}) {
                for (int i : new int[] {0, 1, -1, LEAST, MOST}) Due.isRefused("segment " + i + ", " + w, () -> s.segment(i, w));
            }
            if (state == 0) s.make(0, 0, 0);
            if (state == 1) s.blank(1);
        }
    }
}
