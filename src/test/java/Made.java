import java.nio.charset.StandardCharsets;
import java.util.ArrayList;
import java.util.List;

/** What the tests ask of an object, by its face alone. */
final class Made {
    private static final int NONE = SquareSymbols.NONE;

    private Made() {
    }

    /** An object with the bytes of a text, whose characters are 0 to 255. */
    static SquareSymbols of(String text) {
        SquareSymbols s = new SquareSymbols();
        add(s, text);
        return s;
    }

    static void add(SquareSymbols s, String text) {
        for (byte b : text.getBytes(StandardCharsets.ISO_8859_1)) s.repeat(b & 255, 1);
    }

    /** The data as a text. */
    static String data(SquareSymbols s) {
        StringBuilder out = new StringBuilder();
        for (int i = 0; s.at(i) != NONE; i++) out.append((char) s.at(i));
        return out.toString();
    }

    static int[][] modules(SquareSymbols s) {
        return modules(s, 17 + 4 * s.told(0));
    }

    static int[][] modules(SquareSymbols s, int side) {
        int[][] out = new int[side][side];
        for (int y = 0; y < side; y++) {
            for (int x = 0; x < side; x++) out[y][x] = (int) (s.row(x, y) & 1);
        }
        return out;
    }

    static int module(SquareSymbols s, int x, int y) {
        return (int) (s.row(x, y) & 1);
    }

    /** The segments of what was made, as mode:length, one behind the other. */
    static String segments(SquareSymbols s) {
        StringBuilder out = new StringBuilder();
        for (int i = 0; s.segment(i, 0) != NONE; i++) {
            out.append(i == 0 ? "" : " ").append(s.segment(i, 0)).append(':').append(s.segment(i, 1));
        }
        return out.toString();
    }

    /** The codewords in the order of the symbol, with the mask turned back. */
    static int[] codewords(SquareSymbols s) {
        int version = s.told(0);
        List<int[]> way = PlainSymbols.way(PlainSymbols.fixed(version));
        int[] out = new int[PlainSymbols.codewords(version)];
        for (int i = 0; i < 8 * out.length; i++) {
            int x = way.get(i)[0];
            int y = way.get(i)[1];
            int turned = PlainSymbols.isTurned(s.told(2), x, y) ? 1 : 0;
            out[i / 8] = 2 * out[i / 8] + (module(s, x, y) ^ turned);
        }
        return out;
    }

    static int[][] blocks(SquareSymbols s) {
        return PlainSymbols.blocksOf(modules(s), s.told(1), s.told(0), s.told(2));
    }

    /** The bytes of all blocks as a text of bits, without the check bytes. */
    static String bits(SquareSymbols s) {
        int checks = PlainSymbols.CHECKS[s.told(1)][s.told(0) - 1];
        StringBuilder out = new StringBuilder();
        for (int[] block : blocks(s)) {
            for (int i = 0; i < block.length - checks; i++) out.append(PlainSymbols.text(block[i], 8));
        }
        return out.toString();
    }

    /** All that the face tells without a change. */
    static List<Long> state(SquareSymbols s) {
        List<Long> out = new ArrayList<>();
        for (int i = 0; s.at(i) != NONE; i++) out.add((long) s.at(i));
        for (int what = 0; what < 6; what++) out.add((long) s.told(what));
        for (int i = 0; i == 0 || s.segment(i - 1, 0) != NONE; i++) {
            out.add((long) s.segment(i, 0));
            out.add((long) s.segment(i, 1));
        }
        for (int y = 0; y < 177; y++) {
            for (int x = 0; x < 177; x += 64) out.add(s.row(x, y));
        }
        out.add((long) s.fault());
        for (int what = 0; what < 4; what++) out.add((long) s.reading(what));
        return out;
    }
}
