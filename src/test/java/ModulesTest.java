import java.util.Random;

/** Promises 7, 10 and 11, sentence by sentence: blank, row, spoil. */
public final class ModulesTest {
    private static final int NONE = SquareSymbols.NONE;
    private static final int LEAST = Integer.MIN_VALUE;
    private static final int MOST = Integer.MAX_VALUE;
    /** Places from which on no module of any symbol comes, though a sum that went round would. */
    private static final int[] FAR = {-64, -65, -128, -1000, LEAST, LEAST + 1, LEAST + 63, 177, 178, 191, 192, 1000, MOST, MOST - 1, MOST - 62, MOST - 63};

    public static void main(String[] args) {
        Due.all(
            ModulesTest::places, ModulesTest::blank, ModulesTest::blankRefused, ModulesTest::row,
            ModulesTest::noneInRow, ModulesTest::spoil, ModulesTest::spoiledOnlyInside);
    }

    static void places() {
        Due.sentence("MODULES: x from the left, y from above, from 0 on; dark is 1.");
        SquareSymbols s = new SquareSymbols();
        s.blank(2);
        s.spoil(3, 5, 1L);
        for (int y = 0; y < 25; y++) {
            for (int x = 0; x < 25; x++) Due.is("module " + x + ", " + y, x == 3 && y == 5 ? 1 : 0, Made.module(s, x, y));
        }
        // Of what is made, the corner without a finder is on the right, below.
        s.make(0, 2, 0);
        Due.is("corner above, left", 127, s.row(0, 0) & 255);
        Due.is("corner above, right", 254, s.row(17, 0));
        Due.is("corner below, left", 127, s.row(0, 24) & 255);
        Due.is("the last alignment", 31, s.row(16, 16) & 31);
        Due.is("the dark module", 1, s.row(8, 17) & 1);
        Due.is("the light one across", 0, s.row(17, 7) & 255);
    }

    static void blank() {
        Due.sentence("An empty symbol of a version, all its modules light: its side.");
        SquareSymbols s = new SquareSymbols();
        s.put(1, 'A');
        for (int version = 1; version <= 40; version++) {
            s.make(0, 40, 0);
            Due.is("blank " + version, 17 + 4 * version, s.blank(version));
            for (int y = 0; y < 177; y++) {
                for (int x = 0; x < 177; x += 64) Due.is("row", 0, s.row(x, y));
            }
            int side = 0;
            for (int x = 0; x < 177; x += 64) side += s.spoil(x, 0, -1L);
            Due.is("modules in the first row", 17 + 4 * version, side);
            Due.is("a module in the last row", 1, s.spoil(0, 16 + 4 * version, 1L));
            Due.is("no module below it", 0, s.spoil(0, 17 + 4 * version, 1L));
            Due.is("blank again", 17 + 4 * version, s.blank(version));
            Due.is("all light again", 0, s.row(0, 0) | s.row(0, 16 + 4 * version));
        }
        Due.is("data stays", 'A', s.at(0));
        Due.is("data stays", 1, s.wipe());
        // A small one behind a great one has nothing of it.
        s.blank(40);
        for (int y = 0; y < 177; y++) s.spoil(0, y, -1L);
        s.blank(1);
        s.blank(40);
        for (int y = 0; y < 177; y++) Due.is("nothing of it", 0, s.row(0, y));
    }

    static void blankRefused() {
        Due.sentence("IllegalArgumentException: version is not 1 .. 40.");
        SquareSymbols s = Made.of("A");
        int[] wrong = {0, 41, -1, NONE, 42, LEAST, MOST};
        for (int v : wrong) Due.isRefused("blank " + v, () -> s.blank(v));
        Due.is("no symbol", 0, s.spoil(0, 0, 1L));
        s.make(2, 3, 4);
        long row = s.row(0, 0);
        for (int v : wrong) Due.isRefused("blank " + v, () -> s.blank(v));
        Due.is("the symbol stays", row, s.row(0, 0));
        Due.is("what was made is told", 3, s.told(0));
        Due.is("blank 1", 21, s.blank(1));
        Due.is("blank 40", 177, s.blank(40));
    }

    static void row() {
        Due.sentence("The modules of row y from place x on to the right, up to 64, as bits of a long, the first one the lowest;");
        SquareSymbols s = new SquareSymbols();
        s.blank(40);
        for (int x : new int[] {0, 63, 64, 127, 128, 176}) s.spoil(x, 3, 1L);
        Due.is("row 0", 1L | 1L << 63, s.row(0, 3));
        Due.is("row 1", 1L << 62 | 1L << 63, s.row(1, 3));
        Due.is("row 62", 6L, s.row(62, 3));
        Due.is("row 63", 3L, s.row(63, 3));
        Due.is("row 64", 1L | 1L << 63, s.row(64, 3));
        Due.is("row 65", 3L << 62, s.row(65, 3));
        Due.is("row 112", 1L << 15 | 1L << 16, s.row(112, 3));
        Due.is("row 113", 1L << 14 | 1L << 15 | 1L << 63, s.row(113, 3));
        Due.is("row 128", 1L | 1L << 48, s.row(128, 3));
        Due.is("row 176", 1L, s.row(176, 3));
        // Each module by itself, and all of a made one by each place it can be seen from.
        SquareSymbols made = CodewordsTest.randomBytes(3, 300);
        made.make(0, 12, 2);
        int[][] m = Made.modules(made);
        for (int y = 0; y < 65; y++) {
            for (int x = 0; x < 65; x++) {
                long due = 0;
                for (int i = 0; i < 64 && x + i < 65; i++) due |= (long) m[y][x + i] << i;
                Due.is("row " + x + ", " + y, due, made.row(x, y));
            }
        }
    }

    static void noneInRow() {
        Due.sentence("0 for those that are none (x may be below 0).");
        SquareSymbols s = new SquareSymbols();
        Due.is("no symbol", 0, s.row(0, 0) | s.row(-1, 0) | s.row(MOST, MOST) | s.row(LEAST, LEAST));
        for (int version : new int[] {1, 11, 12, 28, 40}) {
            int side = s.blank(version);
            for (int y = 0; y < side; y++) {
                for (int x = 0; x < side; x += 64) s.spoil(x, y, -1L);
            }
            for (int y : new int[] {0, side / 2, side - 1}) {
                for (int before = 1; before < 64; before++) {
                    long due = (side >= 64 - before ? -1L : (1L << side) - 1) << before;
                    Due.is("row " + -before + ", " + y, due, s.row(-before, y));
                }
                for (int left = 1; left < 64 && left <= side; left++) {
                    Due.is("with " + left + " left", (1L << left) - 1, s.row(side - left, y));
                }
                for (int x : FAR) Due.is("row " + x + ", " + y, 0, s.row(x, y));
                Due.is("row " + side, 0, s.row(side, y));
                Due.is("row " + (side + 1), 0, s.row(side + 1, y));
            }
            for (int y : new int[] {-1, -2, side, side + 1, 176 + 1, 1000, LEAST, MOST}) {
                for (int x : new int[] {0, -1, side - 1, LEAST, MOST}) Due.is("row " + x + ", " + y, 0, s.row(x, y));
            }
        }
    }

    static void spoil() {
        Due.sentence("Modules of the symbol are turned: those of row y from place x on for which the bits of a long, the lowest first, are 1.");
        SquareSymbols s = new SquareSymbols();
        s.blank(12);
        Due.is("no bits", 0, s.spoil(3, 3, 0L));
        Due.is("two bits", 2, s.spoil(3, 3, 5L));
        Due.is("they are dark", 40L, s.row(0, 3));
        Due.is("one of them", 1, s.spoil(5, 3, 1L));
        Due.is("it is light again", 8L, s.row(0, 3));
        Due.is("the rows beside", 0, s.row(0, 2) | s.row(0, 4));
        Due.is("all 64 bits", 64, s.spoil(1, 64, -1L));
        Due.is("but for the first module", -2L, s.row(0, 64));
        Due.is("and the last one, too", 1L, s.row(64, 64));
        Due.is("the highest bit alone", 1, s.spoil(0, 10, Long.MIN_VALUE));
        Due.is("at 63", 1, s.row(63, 10));
        Due.is("fixed ones, too, of what was made", 1, s.make(0, 2, 0) == 2 ? s.spoil(0, 0, 1L) : 0);
        Due.is("a dark one is light", 0, Made.module(s, 0, 0));
        // Random ones, by the plain writing, where a row has one, two and three longs.
        Random random = new Random(21);
        for (int version : new int[] {1, 11, 12, 27, 28, 40}) {
            PlainSymbols plain = new PlainSymbols();
            int side = plain.blank(version);
            s.blank(version);
            for (int i = 0; i < 500; i++) {
                int x = random.nextInt(side + 130) - 65;
                int y = random.nextInt(side + 2) - 1;
                long bits = i % 5 == 0 ? -1L : random.nextLong();
                Due.is("spoil " + x + ", " + y, plain.spoil(x, y, bits), s.spoil(x, y, bits));
            }
            for (int y = 0; y < side; y++) {
                for (int x = 0; x < side; x += 64) Due.is("row " + x + ", " + y, plain.row(x, y), s.row(x, y));
            }
        }
    }

    static void spoiledOnlyInside() {
        Due.sentence("Answers how many; there are no others than in the symbol.");
        SquareSymbols s = new SquareSymbols();
        Due.is("no symbol", 0, s.spoil(0, 0, -1L) + s.spoil(-1, 0, -1L));
        for (int version : new int[] {1, 11, 12, 28, 40}) {
            int side = s.blank(version);
            for (int y : new int[] {0, side - 1}) {
                for (int before = 1; before < 64; before++) {
                    int due = Math.min(side, 64 - before);
                    Due.is("from " + -before, due, s.spoil(-before, y, -1L));
                    Due.is("turned", due == 64 ? -1L : (1L << due) - 1, s.row(0, y));
                    Due.is("only before", 0, s.spoil(-before, y, (1L << before) - 1));
                    Due.is("back", due, s.spoil(-before, y, -1L));
                }
                for (int left = 0; left < 64 && left <= side; left++) {
                    Due.is("with " + left + " left", left, s.spoil(side - left, y, -1L));
                    Due.is("only behind", 0, s.spoil(side - left, y, left == 63 ? Long.MIN_VALUE : -1L << left));
                    Due.is("back", left, s.spoil(side - left, y, -1L));
                }
                for (int x : FAR) Due.is("from " + x, 0, s.spoil(x, y, -1L));
            }
            for (int y : new int[] {-1, -2, side, side + 1, 177, 1000, LEAST, MOST}) {
                for (int x : new int[] {0, -1, side - 1, LEAST, MOST}) Due.is("row " + y, 0, s.spoil(x, y, -1L));
            }
            for (int y = 0; y < side; y++) {
                for (int x = 0; x < side; x += 64) Due.is("all is light", 0, s.row(x, y));
            }
        }
        // What lies beyond the side of a small symbol is not dark in a greater one made later.
        s.blank(1);
        for (int y = -1; y < 200; y++) s.spoil(0, y, -1L);
        Due.is("blank", 177, s.blank(40));
        for (int y = 0; y < 177; y++) Due.is("all is light", 0, s.row(0, y));
    }
}
