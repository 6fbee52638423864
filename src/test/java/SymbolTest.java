import java.math.BigDecimal;
import java.math.MathContext;
import java.math.RoundingMode;
import java.util.Arrays;
import java.util.List;
import java.util.regex.Matcher;
import java.util.regex.Pattern;

/** The terms from MODULES to PENALTY, sentence by sentence. */
public final class SymbolTest {
    /** Where the alignment places of the versions from 2 on are, from the standard of such symbols. */
    private static final String[] PLACES = {
        "6 18", "6 22", "6 26", "6 30", "6 34", "6 22 38", "6 24 42", "6 26 46", "6 28 50", "6 30 54", "6 32 58", "6 34 62",
        "6 26 46 66", "6 26 48 70", "6 26 50 74", "6 30 54 78", "6 30 56 82", "6 30 58 86", "6 34 62 90",
        "6 28 50 72 94", "6 26 50 74 98", "6 30 54 78 102", "6 28 54 80 106", "6 32 58 84 110", "6 30 58 86 114", "6 34 62 90 118",
        "6 26 50 74 98 122", "6 30 54 78 102 126", "6 26 52 78 104 130", "6 30 56 82 108 134", "6 34 60 86 112 138",
        "6 30 58 86 114 142", "6 34 62 90 118 146",
        "6 30 54 78 102 126 150", "6 24 50 76 102 128 154", "6 28 54 80 106 132 158", "6 32 58 84 110 136 162",
        "6 26 54 82 110 138 166", "6 30 58 86 114 142 170"};

    /** The words of 15 bits of level 0 with masks 0 to 7, then of level 1, and so on, from there. */
    static final int[] FORMS = {
        0x77c4, 0x72f3, 0x7daa, 0x789d, 0x662f, 0x6318, 0x6c41, 0x6976, 0x5412, 0x5125, 0x5e7c, 0x5b4b, 0x45f9, 0x40ce, 0x4f97, 0x4aa0,
        0x355f, 0x3068, 0x3f31, 0x3a06, 0x24b4, 0x2183, 0x2eda, 0x2bed, 0x1689, 0x13be, 0x1ce7, 0x19d0, 0x0762, 0x0255, 0x0d0c, 0x083b};

    /** The words of 18 bits of the versions from 7 on, from there. */
    private static final int[] VERSIONS = {
        0x07c94, 0x085bc, 0x09a99, 0x0a4d3, 0x0bbf6, 0x0c762, 0x0d847, 0x0e60d, 0x0f928, 0x10b78, 0x1145d, 0x12a17,
        0x13532, 0x149a6, 0x15683, 0x168c9, 0x177ec, 0x18ec4, 0x191e1, 0x1afab, 0x1b08e, 0x1cc1a, 0x1d33f, 0x1ed75,
        0x1f250, 0x209d5, 0x216f0, 0x228ba, 0x2379f, 0x24b0b, 0x2542e, 0x26a64, 0x27541, 0x28c69};

    public static void main(String[] args) {
        Due.all(
            SymbolTest::finders, SymbolTest::timing, SymbolTest::alignments, SymbolTest::alignmentRings,
            SymbolTest::darkModule, SymbolTest::form, SymbolTest::formPlaces, SymbolTest::versionWord,
            SymbolTest::way, SymbolTest::leftOver, SymbolTest::maskTurnsNoFixedOnes, SymbolTest::masks,
            SymbolTest::runs, SymbolTest::squares, SymbolTest::likeFinders, SymbolTest::share);
    }

    static SquareSymbols made(int version, int level, int mask) {
        SquareSymbols s = CodewordsTest.randomBytes(9, 5);
        s.make(level, version, mask);
        return s;
    }

    /** The modules of a part of the symbol, row by row. */
    static String picture(SquareSymbols s, int x, int y, int width, int height) {
        StringBuilder out = new StringBuilder();
        for (int b = y; b < y + height; b++) {
            out.append(b == y ? "" : " ");
            for (int a = x; a < x + width; a++) out.append(Made.module(s, a, b));
        }
        return out.toString();
    }

    static void finders() {
        Due.sentence("around each of the places (3, 3), (S - 4, 3), (3, S - 4): at the distance d, the greater one of the two differences of places, up to 4, dark unless d is 2 or 4 (within the symbol).");
        String finder = "1111111 1000001 1011101 1011101 1011101 1000001 1111111";
        for (int v = 1; v <= 40; v++) {
            int side = 17 + 4 * v;
            for (int mask = 0; mask < 8; mask++) {
                SquareSymbols s = made(v, mask % 4, mask);
                Due.isText("above, left", finder, picture(s, 0, 0, 7, 7));
                Due.isText("above, right", finder, picture(s, side - 7, 0, 7, 7));
                Due.isText("below, left", finder, picture(s, 0, side - 7, 7, 7));
                // The light ones around them.
                Due.isText("above, left, around", "00000000", picture(s, 0, 7, 8, 1));
                Due.isText("above, left, around", "0 0 0 0 0 0 0 0", picture(s, 7, 0, 1, 8));
                Due.isText("above, right, around", "00000000", picture(s, side - 8, 7, 8, 1));
                Due.isText("above, right, around", "0 0 0 0 0 0 0 0", picture(s, side - 8, 0, 1, 8));
                Due.isText("below, left, around", "00000000", picture(s, 0, side - 8, 8, 1));
                Due.isText("below, left, around", "0 0 0 0 0 0 0 0", picture(s, 7, side - 8, 1, 8));
            }
        }
    }

    static void timing() {
        Due.sentence("Row 6 and column 6 between those: dark where x, or y, is even.");
        for (int v = 1; v <= 40; v++) {
            for (int mask = 0; mask < 8; mask += v == 1 ? 1 : 3) {
                SquareSymbols s = made(v, 0, mask);
                for (int i = 8; i <= 8 + 4 * v; i++) {
                    Due.is("row 6 at " + i, i % 2 == 0 ? 1 : 0, Made.module(s, i, 6));
                    Due.is("column 6 at " + i, i % 2 == 0 ? 1 : 0, Made.module(s, 6, i));
                }
            }
        }
    }

    static void alignments() {
        Due.sentence("For v above 1: places are 6 and, n = v / 7 + 2 of them in all, going down from S - 7 by steps of 26 for v = 32, otherwise of 2 times (4 v + 2 n + 1) / (2 n - 2), rounded down;");
        for (int v = 2; v <= 40; v++) {
            int[] places = PlainSymbols.numbers(PLACES[v - 2]);
            for (int mask = 0; mask < 8; mask += v == 32 ? 1 : 5) {
                SquareSymbols s = made(v, 1, mask);
                for (int x : places) {
                    for (int y : places) {
                        int last = places[places.length - 1];
                        if (x == 6 && y == 6 || x == 6 && y == last || x == last && y == 6) continue;
                        Due.isText("version " + v + " at " + x + ", " + y, "11111 10001 10101 10001 11111", picture(s, x - 2, y - 2, 5, 5));
                    }
                }
            }
        }
        // Version 1 has codewords where (14, 14) would be such a place.
        SquareSymbols one = made(1, 1, 0);
        SquareSymbols two = made(1, 1, 1);
        for (int y = 12; y <= 16; y++) {
            for (int x = 12; x <= 16; x++) {
                Due.is("version 1 at " + x + ", " + y, (x + y) % 2 == 0 != (y % 2 == 0) ? 1 : 0, Made.module(one, x, y) ^ Made.module(two, x, y));
            }
        }
    }

    static void alignmentRings() {
        Due.sentence("around each (x, y) of such places, but those three where there is one of the first kind: up to d = 2 dark unless d is 1.");
        for (int v : new int[] {2, 6, 7, 13, 14, 40}) {
            int side = 17 + 4 * v;
            for (int mask = 0; mask < 8; mask++) {
                SquareSymbols s = made(v, 3, mask);
                Due.isText("the last place", "11111 10001 10101 10001 11111", picture(s, side - 9, side - 9, 5, 5));
                Due.isText("above, left", "101 001 111", picture(s, 4, 4, 3, 3));
                Due.isText("above, right", "101 100 111", picture(s, side - 7, 4, 3, 3));
                Due.isText("below, left", "111 001 101", picture(s, 4, side - 7, 3, 3));
            }
            // What is beside the rings is none of them: masks turn it.
            int[][] one = Made.modules(made(v, 3, 0));
            int[][] two = Made.modules(made(v, 3, 1));
            for (int i = side - 10; i <= side - 4; i++) {
                Due.is("left of the last place", (side - 10) % 2, one[i][side - 10] ^ two[i][side - 10]);
                Due.is("above the last place", i % 2, one[side - 10][i] ^ two[side - 10][i]);
            }
        }
    }

    static void darkModule() {
        Due.sentence("(8, S - 8) is dark.");
        for (int v = 1; v <= 40; v++) {
            for (int form = 0; form < 32; form += v == 1 || v == 40 ? 1 : 7) {
                Due.is("version " + v, 1, Made.module(made(v, form / 8, form % 8), 8, 17 + 4 * v - 8));
            }
        }
    }

    static int word(SquareSymbols s, int[][] places) {
        int word = 0;
        for (int i = 0; i < places.length; i++) word |= Made.module(s, places[i][0], places[i][1]) << i;
        return word;
    }

    static int[][] formPlaces(int copy, int side) {
        if (copy == 0) {
            return new int[][] {{8, 0}, {8, 1}, {8, 2}, {8, 3}, {8, 4}, {8, 5}, {8, 7}, {8, 8}, {7, 8}, {5, 8}, {4, 8}, {3, 8}, {2, 8}, {1, 8}, {0, 8}};
        }
        return new int[][] {{side - 1, 8}, {side - 2, 8}, {side - 3, 8}, {side - 4, 8}, {side - 5, 8}, {side - 6, 8}, {side - 7, 8}, {side - 8, 8},
            {8, side - 7}, {8, side - 6}, {8, side - 5}, {8, side - 4}, {8, side - 3}, {8, side - 2}, {8, side - 1}};
    }

    static void form() {
        Due.sentence("for level l and mask k the word of 15 bits of the number 8 f + k, f being 1, 0, 3, 2 for l = 0, 1, 2, 3: 1024 times that number, and its rest by the polynomial 1335 over two bits, both exclusive or 21522.");
        for (int level = 0; level < 4; level++) {
            for (int mask = 0; mask < 8; mask++) {
                Due.is("level " + level + " mask " + mask, FORMS[8 * level + mask], word(made(1, level, mask), formPlaces(0, 21)));
            }
        }
    }

    static void formPlaces() {
        Due.sentence("Its bit i (0 the lowest) is at (8, i) for i up to 5, (8, 7) for 6, (8, 8) for 7, (7, 8) for 8, (14 - i, 8) from 9 on; and again at (S - 1 - i, 8) for i up to 7, (8, S - 15 + i) from 8 on.");
        for (int v = 1; v <= 40; v++) {
            for (int form = 0; form < 32; form += v < 3 || v == 40 ? 1 : 5) {
                SquareSymbols s = made(v, form / 8, form % 8);
                Due.is("version " + v + " first", FORMS[form], word(s, formPlaces(0, 17 + 4 * v)));
                Due.is("version " + v + " second", FORMS[form], word(s, formPlaces(1, 17 + 4 * v)));
            }
        }
    }

    static void versionWord() {
        Due.sentence("For v above 6 the word of 18 bits of v: 4096 v, and its rest by 7973: its bit i at (S - 11 + i % 3, i / 3), and at (i / 3, S - 11 + i % 3), i / 3 rounded down.");
        for (int v = 7; v <= 40; v++) {
            for (int mask = 0; mask < 8; mask += 3) {
                SquareSymbols s = made(v, 2, mask);
                int above = 17 + 4 * v - 11;
                int[][] places = new int[18][];
                int[][] turned = new int[18][];
                for (int y = 0, i = 0; y < 6; y++) {
                    for (int x = 0; x < 3; x++, i++) {
                        places[i] = new int[] {above + x, y};
                        turned[i] = new int[] {y, above + x};
                    }
                }
                Due.is("version " + v + " above", VERSIONS[v - 7], word(s, places));
                Due.is("version " + v + " left", VERSIONS[v - 7], word(s, turned));
            }
        }
        // Version 6 has codewords there.
        SquareSymbols one = made(6, 2, 0);
        SquareSymbols two = made(6, 2, 1);
        for (int y = 0; y < 6; y++) {
            for (int x = 30; x < 33; x++) {
                Due.is("version 6 above", x % 2, Made.module(one, x, y) ^ Made.module(two, x, y));
                Due.is("version 6 left", y % 2, Made.module(one, y, x) ^ Made.module(two, y, x));
            }
        }
    }

    static void way() {
        Due.sentence("All others have the bits of the codewords, the highest first, in the order: pairs of columns from the right to the left, S - 1 and S - 2, and so on, column 6 left out (so that the last ones are 5 and 4, 3 and 2, 1 and 0); the first pair upwards, the next one downwards, and so on; in each row the right one first.");
        // Version 1: the right column of each pair, and the rows from and to which it goes.
        int[][] parts = {{20, 20, 9}, {18, 9, 20}, {16, 20, 9}, {14, 9, 20}, {12, 20, 7}, {12, 5, 0}, {10, 0, 5}, {10, 7, 20},
            {8, 12, 9}, {5, 9, 12}, {3, 12, 9}, {1, 9, 12}};
        int[] due = {16, 32, 12, 86, 97, 128, 236, 17, 236, 17, 236, 17, 236, 17, 236, 17, 165, 36, 212, 193, 237, 54, 199, 135, 44, 85};
        SquareSymbols s = Made.of("01234567");
        s.make(1, 1, 0);
        int bit = 0;
        for (int[] part : parts) {
            int down = part[2] > part[1] ? 1 : -1;
            for (int y = part[1]; y != part[2] + down; y += down) {
                for (int x = part[0]; x >= part[0] - 1; x--, bit++) {
                    int turned = (x + y) % 2 == 0 ? 1 : 0;
                    Due.is("bit " + bit + " at " + x + ", " + y, due[bit / 8] >> (7 - bit % 8) & 1, Made.module(s, x, y) ^ turned);
                }
            }
        }
        Due.is("bits in all", 208, bit);
    }

    static void leftOver() {
        Due.sentence("Those that are left over have 0.");
        int[] due = {0, 7, 7, 7, 7, 7, 0, 0, 0, 0, 0, 0, 0, 3, 3, 3, 3, 3, 3, 3, 4, 4, 4, 4, 4, 4, 4, 3, 3, 3, 3, 3, 3, 3, 0, 0, 0, 0, 0, 0};
        for (int v = 1; v <= 40; v++) {
            List<int[]> way = PlainSymbols.way(PlainSymbols.fixed(v));
            int words = 8 * PlainSymbols.codewords(v);
            Due.is("version " + v + " has left over", due[v - 1], way.size() - words);
            for (int mask = 0; mask < 8; mask++) {
                SquareSymbols s = made(v, 0, mask);
                for (int[] at : way.subList(words, way.size())) {
                    Due.is("version " + v + " left over", PlainSymbols.isTurned(mask, at[0], at[1]) ? 1 : 0, Made.module(s, at[0], at[1]));
                    s.spoil(at[0], at[1], 1);
                }
                Due.is("read without them", 5, s.read());
                Due.is("none put right", 0, s.reading(2));
            }
        }
        // Version 2: the last seven, in columns 1 and 0, from the row above the light ones on.
        int[][] last = {{0, 13}, {1, 14}, {0, 14}, {1, 15}, {0, 15}, {1, 16}, {0, 16}};
        for (int[] at : last) {
            Due.is("version 2 left over", 1 - at[1] % 2, Made.module(made(2, 0, 1), at[0], at[1]));
        }
    }

    static void maskTurnsNoFixedOnes() {
        Due.sentence("Then a mask turns those of all these (no fixed ones) for which:");
        for (int v = 1; v <= 40; v++) {
            int[][] fixed = PlainSymbols.fixed(v);
            int[][] first = Made.modules(made(v, 0, 0));
            for (int mask = 1; mask < 8; mask += v < 8 ? 1 : 3) {
                int[][] other = Made.modules(made(v, 0, mask));
                int turned = 0;
                int due = 0;
                int fixedTurned = 0;
                for (int y = 0; y < first.length; y++) {
                    for (int x = 0; x < first.length; x++) {
                        boolean isTurned = first[y][x] != other[y][x];
                        if (fixed[y][x] == -1) {
                            turned += isTurned ? 1 : 0;
                            due += PlainSymbols.isTurned(0, x, y) != PlainSymbols.isTurned(mask, x, y) ? 1 : 0;
                        } else if (fixed[y][x] != 2) {
                            fixedTurned += isTurned ? 1 : 0;
                        }
                    }
                }
                Due.is("version " + v + " fixed ones turned", 0, fixedTurned);
                Due.is("version " + v + " others turned", due, turned);
            }
        }
    }

    static void masks() {
        Due.sentence("0: x + y is even; 1: y is even; 2: x is a multiple of 3; 3: x + y is; 4: x / 3 + y / 2 (each rounded down) is even; 5: x y % 2 + x y % 3 is 0; 6: that is even; 7: (x + y) % 2 + x y % 3 is even.");
        // What each turns of the first rows and columns; they come again after 12.
        String[] pictures = {
            "101010101010 010101010101 101010101010 010101010101",
            "111111111111 000000000000 111111111111 000000000000",
            "100100100100 100100100100 100100100100 100100100100",
            "100100100100 001001001001 010010010010 100100100100",
            "111000111000 111000111000 000111000111 000111000111 111000111000 111000111000",
            "111111111111 100000100000 100100100100 101010101010 100100100100 100000100000 111111111111",
            "111111111111 111000111000 110110110110 101010101010 101101101101 100011100011 111111111111",
            "101010101010 000111000111 100011100011 010101010101 111000111000 011100011100 101010101010",
        };
        for (int v : new int[] {1, 5, 12, 28, 40}) {
            int[][] fixed = PlainSymbols.fixed(v);
            int[][][] made = new int[8][][];
            for (int mask = 0; mask < 8; mask++) made[mask] = Made.modules(made(v, 3, mask));
            for (int mask = 0; mask < 8; mask++) {
                String[] picture = pictures[mask].split(" ");
                String[] zero = pictures[0].split(" ");
                int rows = mask == 4 ? 4 : mask > 4 ? 6 : mask == 3 ? 3 : 2;
                for (int y = 0; y < fixed.length; y++) {
                    for (int x = 0; x < fixed.length; x++) {
                        if (fixed[y][x] != -1) continue;
                        int due = picture[y % rows].charAt(x % 12) == zero[y % 2].charAt(x % 12) ? 0 : 1;
                        Due.is("mask " + mask + " at " + x + ", " + y, due, made[0][y][x] ^ made[mask][y][x]);
                    }
                }
            }
        }
        // Mask 0 alone, by the codewords of the standard's example.
        SquareSymbols s = Made.of("01234567");
        s.make(1, 1, 0);
        Due.isText("first codeword under mask 0", "10 01 00 01", picture(s, 19, 17, 2, 4));
    }

    // ---- penalty: each part counted here once more, and in another way ----

    private static final Pattern RUN = Pattern.compile("0{5,}|1{5,}");
    private static final Pattern FINDER = Pattern.compile("(?=10111010000|00001011101)");

    static String[] lines(int[][] m) {
        String[] out = new String[2 * m.length];
        for (int i = 0; i < m.length; i++) {
            StringBuilder across = new StringBuilder();
            StringBuilder down = new StringBuilder();
            for (int j = 0; j < m.length; j++) {
                across.append(m[i][j]);
                down.append(m[j][i]);
            }
            out[i] = across.toString();
            out[m.length + i] = down.toString();
        }
        return out;
    }

    static int runPart(int[][] m) {
        int sum = 0;
        for (String line : lines(m)) {
            for (Matcher run = RUN.matcher(line); run.find();) sum += 3 + run.group().length() - 5;
        }
        return sum;
    }

    static int squarePart(int[][] m) {
        int sum = 0;
        for (int y = 1; y < m.length; y++) {
            for (int x = 1; x < m.length; x++) {
                int dark = m[y][x] + m[y][x - 1] + m[y - 1][x] + m[y - 1][x - 1];
                sum += dark % 4 == 0 ? 3 : 0;
            }
        }
        return sum;
    }

    static int finderPart(int[][] m) {
        int sum = 0;
        for (String line : lines(m)) {
            for (Matcher finder = FINDER.matcher(line); finder.find();) sum += 40;
        }
        return sum;
    }

    static int dark(int[][] m) {
        return Arrays.stream(m).flatMapToInt(Arrays::stream).sum();
    }

    static int sharePart(int[][] m) {
        BigDecimal all = BigDecimal.valueOf((long) m.length * m.length);
        BigDecimal share = BigDecimal.valueOf(100L * dark(m)).divide(all, MathContext.DECIMAL128);
        return 10 * share.subtract(BigDecimal.valueOf(50)).abs().divide(BigDecimal.valueOf(5), 0, RoundingMode.DOWN).intValue();
    }

    static void isPenalty(String what, SquareSymbols s, int[][] m) {
        Due.is(what, runPart(m) + squarePart(m) + finderPart(m) + sharePart(m), s.told(3));
    }

    /** The first symbols of small and greater versions that have what a pattern finds in a line. */
    static void isPenaltyWith(String pattern) {
        Pattern sought = Pattern.compile(pattern);
        for (int v : new int[] {1, 2, 7, 12, 28, 40}) {
            int met = 0;
            for (int i = 0; i < 400 && met < 3; i++) {
                SquareSymbols s = Made.of("data " + i);
                s.make(i / 8 % 4, v, i % 8);
                int[][] m = Made.modules(s);
                boolean has = false;
                for (String line : lines(m)) has |= sought.matcher(line).find();
                if (has) {
                    isPenalty("version " + v + ", \"data " + i + "\", with " + pattern, s, m);
                    met++;
                }
            }
            Due.isSo("version " + v + " has symbols with " + pattern, met > 0);
        }
    }

    static void runs() {
        Due.sentence("for each run of five or more alike in a row or column (as long as it goes on) 3, and 1 for each beyond five;");
        // Of four, five, six, seven and more; in the midst, and at both ends of a line.
        isPenaltyWith("01{4}0");
        isPenaltyWith("10{4}1");
        isPenaltyWith("01{5}0");
        isPenaltyWith("10{5}1");
        isPenaltyWith("10{6}1");
        isPenaltyWith("01{6}0");
        isPenaltyWith("0{8}|1{8}");
        isPenaltyWith("^1{5}");
        isPenaltyWith("^0{5}");
        isPenaltyWith("1{5}$");
        isPenaltyWith("0{5}$");
        isPenaltyWith("0{5}1{5}|1{5}0{5}");
    }

    static void squares() {
        Due.sentence("3 for each square of four alike;");
        int dark = 0;
        int light = 0;
        for (int i = 0; i < 64; i++) {
            SquareSymbols s = Made.of("square " + i);
            s.make(i % 4, new int[] {1, 3, 12, 13, 28, 40}[i % 6], i % 8);
            int[][] m = Made.modules(s);
            int side = m.length;
            isPenalty("square " + i, s, m);
            // Squares that lie over one another, three by two, count as two.
            for (int y = 1; y < side; y++) {
                for (int x = 2; x < side; x++) {
                    int sum = m[y][x] + m[y][x - 1] + m[y][x - 2] + m[y - 1][x] + m[y - 1][x - 1] + m[y - 1][x - 2];
                    dark += sum == 6 ? 1 : 0;
                    light += sum == 0 ? 1 : 0;
                }
            }
        }
        Due.isSo("squares over one another", dark > 100 && light > 100);
    }

    static void likeFinders() {
        Due.sentence("40 for each place in a row or column at which eleven are 10111010000 or 00001011101 (1 dark, left to right or downwards);");
        isPenaltyWith("10111010000");
        isPenaltyWith("00001011101");
        isPenaltyWith("^10111010000");
        isPenaltyWith("00001011101$");
        isPenaltyWith("[^0]00010111010001");
        for (int v : new int[] {2, 5, 12}) isPenaltyOfBoth(v);
    }

    /** Four light ones on both sides count twice. */
    private static void isPenaltyOfBoth(int version) {
        int met = 0;
        for (int i = 0; i < 3000 && met == 0; i++) {
            SquareSymbols s = Made.of("both " + i);
            s.make(i / 8 % 4, version, i % 8);
            int[][] m = Made.modules(s);
            for (String line : lines(m)) {
                if (line.contains("000010111010000")) met++;
            }
            if (met > 0) isPenalty("both sides of version " + version, s, m);
        }
        Due.isSo("version " + version + " has one with both sides", met > 0);
    }

    static void share() {
        Due.sentence("10 times the greatest k for which 5 k is not above the difference of the share of dark ones in hundredths to 50.");
        // Version, byte, how many of it, level, mask; how many are dark then, and their part:
        // just within, just at (40 or 60 of a hundred, in versions 7, 12, 27), and just beyond.
        int[][] edges = {
            {1, 255, 4, 2, 5, 198, 10}, {1, 0, 8, 1, 3, 200, 0}, {1, 0, 0, 1, 6, 242, 0}, {1, 0, 0, 1, 4, 244, 10},
            {2, 170, 17, 0, 5, 281, 10}, {2, 0, 21, 1, 3, 282, 0}, {2, 1, 3, 3, 5, 343, 0}, {2, 0, 10, 1, 6, 344, 10},
            {4, 0, 24, 2, 5, 490, 10}, {4, 0, 32, 2, 2, 491, 0}, {4, 255, 53, 1, 5, 598, 0}, {4, 0, 20, 2, 6, 599, 10},
            {7, 0, 76, 2, 3, 810, 20}, {7, 4, 147, 0, 6, 1214, 10}, {7, 255, 110, 0, 2, 1216, 20},
            {12, 0, 159, 2, 3, 1689, 20}, {12, 48, 291, 3, 2, 1690, 20}, {12, 0, 245, 1, 3, 1691, 10},
            {12, 255, 259, 1, 2, 2534, 10}, {12, 0, 147, 3, 6, 2535, 20}, {12, 255, 264, 1, 2, 2536, 20},
            {27, 0, 422, 3, 3, 6250, 20}};
        for (int[] e : edges) {
            SquareSymbols s = new SquareSymbols();
            s.repeat(e[1], e[2]);
            s.make(e[3], e[0], e[4]);
            int[][] m = Made.modules(s);
            Due.is("dark ones of version " + e[0], e[5], dark(m));
            Due.is("part of " + e[5], e[6], sharePart(m));
            isPenalty(e[5] + " dark ones of version " + e[0], s, m);
        }
    }
}
