/** Promises 7, 10 and 11: blank, row, spoil. */
public final class ModulesTest {
    private static final int NONE = SquareSymbols.NONE;

    public static void main(String[] args) {
        blank();
        row();
        spoil();
        Due.end();
    }

    static void blank() {
        SquareSymbols s = new SquareSymbols();
        for (int version = 1; version <= 40; version++) {
            s.make(0, 40, 0);
            Due.is("blank " + version, 17 + 4 * version, s.blank(version));
            for (int y = 0; y < 177; y++) {
                for (int x = 0; x < 177; x += 64) Due.is("blank row", 0, s.row(x, y));
            }
            Due.is("blank's side", 17 + 4 * version, count(s, 0) + count(s, 64) + count(s, 128));
        }
        int[] wrong = {0, 41, -1, Integer.MIN_VALUE, Integer.MAX_VALUE};
        for (int v : wrong) Due.isRefused("blank " + v, () -> s.blank(v));
        s.put(1, 'A');
        s.make(2, 3, 4);
        Due.isRefused("blank 0", () -> s.blank(0));
        Due.is("refused blank's told", 3, s.told(0));
        Due.is("blank behind make", 21, s.blank(1));
        for (int i = 0; i < 6; i++) Due.is("blank's told", NONE, s.told(i));
        Due.is("blank's segment", NONE, s.segment(0, 0));
        Due.is("blank's data", 'A', s.at(0));
        Due.is("no fit behind blank", NONE, s.repeat('a', 2000) == 2001 ? s.make(0, 1, 0) : 0);
        Due.is("told still none", NONE, s.told(0));
    }

    private static int count(SquareSymbols s, int x) {
        return s.spoil(x, 0, -1L);
    }

    static void row() {
        SquareSymbols s = new SquareSymbols();
        s.blank(40);
        s.spoil(0, 3, 1L);
        s.spoil(63, 3, 1L);
        s.spoil(64, 3, 1L);
        s.spoil(127, 3, 1L);
        s.spoil(128, 3, 1L);
        s.spoil(176, 3, 1L);
        Due.is("row 0", 1L | 1L << 63, s.row(0, 3));
        Due.is("row 1", 1L << 62 | 1L << 63, s.row(1, 3));
        Due.is("row 63", 3L, s.row(63, 3));
        Due.is("row 64", 1L | 1L << 63, s.row(64, 3));
        Due.is("row 65", 3L << 62, s.row(65, 3));
        Due.is("row 128", 1L | 1L << 48, s.row(128, 3));
        Due.is("row 176", 1L, s.row(176, 3));
        Due.is("row 177", 0L, s.row(177, 3));
        Due.is("row -1", 2L, s.row(-1, 3));
        Due.is("row -63", 1L << 63, s.row(-63, 3));
        Due.is("row -64", 0L, s.row(-64, 3));
        int[] far = {Integer.MIN_VALUE, Integer.MIN_VALUE + 1, -65, 178, 192, Integer.MAX_VALUE, Integer.MAX_VALUE - 62};
        for (int x : far) Due.is("row " + x, 0L, s.row(x, 3));
        int[] others = {-1, 2, 4, 177, Integer.MIN_VALUE, Integer.MAX_VALUE};
        for (int y : others) Due.is("row of " + y, 0L, s.row(0, y));
        s.blank(1);
        for (int y = 0; y < 21; y++) s.spoil(0, y, -1L);
        Due.is("whole row", (1L << 21) - 1, s.row(0, 20));
        Due.is("row beyond", 0, s.row(0, 21));
        Due.is("row's end", 1, s.row(20, 0));
        Due.is("row behind the end", 0, s.row(21, 0));
    }

    static void spoil() {
        SquareSymbols s = new SquareSymbols();
        s.blank(12);
        Due.is("spoil nothing", 0, s.spoil(3, 3, 0L));
        Due.is("spoil two", 2, s.spoil(3, 3, 5L));
        Due.is("spoiled", 40L, s.row(0, 3));
        Due.is("spoil back", 1, s.spoil(5, 3, 1L));
        Due.is("spoiled back", 8L, s.row(0, 3));
        Due.is("spoil 64", 64, s.spoil(1, 64, -1L));
        Due.is("spoiled 64", -2L, s.row(0, 64));
        Due.is("spoiled the 65th", 1L, s.row(64, 64));
        Due.is("spoil the end", 2, s.spoil(63, 0, -1L));
        Due.is("spoiled the end", 3L, s.row(63, 0));
        Due.is("spoil the last", 1, s.spoil(64, 1, -1L));
        Due.is("spoil behind the last", 0, s.spoil(65, 1, -1L));
        Due.is("spoil before", 63, s.spoil(-1, 2, -1L));
        Due.is("spoiled before", -1L >>> 1, s.row(0, 2));
        Due.is("spoil one before", 1, s.spoil(-63, 5, -1L));
        Due.is("spoiled one before", 1L, s.row(0, 5));
        Due.is("spoil only outside", 0, s.spoil(-3, 5, 7L));
        int[] far = {-64, -65, Integer.MIN_VALUE, Integer.MAX_VALUE, Integer.MAX_VALUE - 63, 65, 177};
        for (int x : far) Due.is("spoil from " + x, 0, s.spoil(x, 5, -1L));
        int[] others = {-1, 65, 177, Integer.MIN_VALUE, Integer.MAX_VALUE};
        for (int y : others) Due.is("spoil row " + y, 0, s.spoil(0, y, -1L));
        Due.is("not spoiled from afar", 1L, s.row(0, 5));
        s.put(4, 0x61626364L);
        s.make(1, 2, 3);
        int penalty = s.told(3);
        Due.is("spoil what was made", 25, s.spoil(0, 0, -1L));
        Due.is("spoiled is told as before", penalty, s.told(3));
        Due.is("spoiled is made as before", 2, s.told(0));
    }
}
