import java.util.Random;

/** All promises: calls with numbers from the edges throw just where the document says. */
public final class EdgeTest {
    private static final int[] EDGES = {
        Integer.MIN_VALUE, Integer.MIN_VALUE + 1, -65, -64, -63, -2, -1, 0, 1, 2, 3, 4, 5, 6, 7, 8, 9, 20, 21, 39, 40,
        41, 63, 64, 65, 127, 128, 176, 177, 191, 192, 255, 256, 2999, 3000, 3001, Integer.MAX_VALUE - 63, Integer.MAX_VALUE};

    public static void main(String[] args) {
        for (int run = 0; run < 150; run++) {
            Random random = new Random(run);
            SquareSymbols s = new SquareSymbols();
            for (int i = 0; i < 512; i++) {
                call("run " + run + " call " + i, random, s);
            }
        }
        Due.end();
    }

    static int edge(Random random) {
        return EDGES[random.nextInt(EDGES.length)];
    }

    static boolean isIn(int i, int least, int most) {
        return i >= least && i <= most;
    }

    static void call(String what, Random random, SquareSymbols s) {
        int a = edge(random);
        int b = edge(random);
        int c = edge(random);
        long bits = random.nextInt(4) == 0 ? -1L : random.nextInt(4) == 0 ? random.nextLong() : 1L << random.nextInt(64);
        int kind = random.nextInt(13);
        switch (kind) {
            case 0: due(what + " put " + a, isIn(a, 1, 8), () -> s.put(a, bits)); break;
            case 1: due(what + " repeat " + a + " " + b, isIn(a, 0, 255) && b >= 0, () -> s.repeat(a, b)); break;
            case 2: if (random.nextInt(8) == 0) due(what + " wipe", true, s::wipe); break;
            case 3: due(what + " at " + a, true, () -> s.at(a)); break;
            case 4:
                int level = random.nextInt(8) == 0 ? a : random.nextInt(4);
                int mask = random.nextInt(8) == 0 ? c : random.nextInt(9) - 1;
                due(what + " make " + level + " " + b + " " + mask,
                    isIn(level, 0, 3) && isIn(b, 0, 40) && isIn(mask, -1, 7), () -> s.make(level, b, mask));
                break;
            case 5: if (random.nextInt(8) == 0) due(what + " blank " + a, isIn(a, 1, 40), () -> s.blank(a)); break;
            case 6: due(what + " told " + a, isIn(a, 0, 5), () -> s.told(a)); break;
            case 7: due(what + " segment " + a + " " + b, isIn(b, 0, 1), () -> s.segment(a, b)); break;
            case 8: due(what + " row " + a + " " + b, true, () -> s.row(a, b)); break;
            case 9: due(what + " spoil " + a + " " + b, true, () -> s.spoil(a, b, bits)); break;
            case 10: due(what + " read", true, s::read); break;
            case 11: due(what + " fault", true, s::fault); break;
            default: due(what + " reading " + a, isIn(a, 0, 3), () -> s.reading(a));
        }
    }

    static void due(String what, boolean answers, Due.Call call) {
        if (!answers) {
            Due.isRefused(what, call);
            return;
        }
        try {
            call.answer();
            Due.is(what, 1, 1);
        } catch (RuntimeException e) {
            Due.is(what + " threw " + e, 1, 0);
        }
    }
}
