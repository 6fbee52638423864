import java.util.ArrayList;
import java.util.List;
import java.util.Random;

/** Promises 1 to 14: random runs of calls, answered by SquareSymbols and by PlainSymbols. */
public final class AgainstPlainTest {
    private static final String[] ALPHABETS = {"0123456789", PlainSymbols.SIGNS, "abcdefxyz\u00ff\u0000\u0080"};

    public static void main(String[] args) {
        Due.all(
            AgainstPlainTest::divisionsOfAllShortData, AgainstPlainTest::divisionsOfMixedData,
            AgainstPlainTest::everyVersionAndLevel, AgainstPlainTest::everyMask, AgainstPlainTest::spoiledSymbols,
            AgainstPlainTest::randomBits, AgainstPlainTest::randomCalls);
    }

    static int mixedByte(Random random, int kind) {
        String alphabet = ALPHABETS[kind];
        return alphabet.charAt(random.nextInt(alphabet.length()));
    }

    /** Runs of random kinds, with which divisions are not plain to see. */
    static void addMixed(Random random, SquareSymbols one, PlainSymbols two, int size, int longest) {
        while (two.data.size() < size) {
            int kind = random.nextInt(3);
            for (int n = 1 + random.nextInt(longest); n > 0 && two.data.size() < size; n--) {
                int b = mixedByte(random, kind);
                Due.is("repeat", two.repeat(b, 1), one.repeat(b, 1));
            }
        }
    }

    static void compareMade(String what, SquareSymbols one, PlainSymbols two) {
        for (int i = 0; i < 6; i++) Due.is(what + " told " + i, two.told(i), one.told(i));
        for (int i = -1; i <= two.told(4); i++) {
            Due.is(what + " segment's mode " + i, two.segment(i, 0), one.segment(i, 0));
            Due.is(what + " segment's length " + i, two.segment(i, 1), one.segment(i, 1));
        }
    }

    static void compareModules(String what, SquareSymbols one, PlainSymbols two) {
        for (int y = -1; y <= 177; y++) {
            for (int x = -10; x < 180; x += 61) {
                Due.is(what + " row " + x + " " + y, two.row(x, y), one.row(x, y));
            }
        }
    }

    static void compareRead(String what, SquareSymbols one, PlainSymbols two) {
        Due.is(what + " read", two.read(), one.read());
        Due.is(what + " fault", two.fault(), one.fault());
        for (int i = 0; i < 4; i++) Due.is(what + " reading " + i, two.reading(i), one.reading(i));
        compareData(what, one, two);
    }

    static void compareData(String what, SquareSymbols one, PlainSymbols two) {
        for (int i = -1; i <= two.data.size(); i++) Due.is(what + " at " + i, two.at(i), one.at(i));
    }

    /** All divisions of all data of up to eight bytes of three kinds, looked at one by one. */
    static void divisionsOfAllShortData() {
        int[] bytes = {'7', 'Q', 'q'};
        int[] spans = {9, 10, 27};
        for (int n = 0; n <= 8; n++) {
            int all = (int) Math.pow(3, n);
            for (int code = 0; code < all; code++) {
                SquareSymbols one = new SquareSymbols();
                List<Integer> data = new ArrayList<>();
                for (int i = 0, c = code; i < n; i++, c /= 3) {
                    data.add(bytes[c % 3]);
                    one.repeat(bytes[c % 3], 1);
                }
                int version = spans[code % 3];
                int[] best = null;
                for (int d = 0; d < all; d++) {
                    int[] modes = new int[n];
                    boolean allowed = true;
                    for (int i = n - 1, c = d; i >= 0; i--, c /= 3) {
                        modes[i] = c % 3;
                        allowed &= PlainSymbols.isOfMode(data.get(i), modes[i]);
                    }
                    if (allowed && (best == null || PlainSymbols.bits(modes, version) < PlainSymbols.bits(best, version))) best = modes;
                }
                one.make(0, version, 0);
                List<int[]> segments = PlainSymbols.segments(best);
                Due.is("short data's bits", PlainSymbols.bits(best, version), one.told(5));
                Due.is("short data's segments", segments.size(), one.told(4));
                for (int i = 0; i < segments.size(); i++) {
                    Due.is("short data's mode", segments.get(i)[0], one.segment(i, 0));
                    Due.is("short data's length", segments.get(i)[1], one.segment(i, 1));
                }
            }
        }
    }

    static void divisionsOfMixedData() {
        Random random = new Random(1);
        for (int i = 0; i < 400; i++) {
            SquareSymbols one = new SquareSymbols();
            PlainSymbols two = new PlainSymbols();
            addMixed(random, one, two, random.nextInt(120), 1 + random.nextInt(24));
            int version = new int[] {9, 10, 26, 27, 40}[random.nextInt(5)];
            Due.is("mixed", two.make(0, version, 1), one.make(0, version, 1));
            compareMade("mixed " + i, one, two);
        }
    }

    /** Full, and as full as can be told: one byte more does not fit. */
    static void everyVersionAndLevel() {
        Random random = new Random(2);
        for (int version = 1; version <= 40; version++) {
            for (int level = 0; level < 4; level++) {
                SquareSymbols one = new SquareSymbols();
                PlainSymbols two = new PlainSymbols();
                String what = "version " + version + " level " + level;
                int room = 8 * PlainSymbols.holds(level, version) - 4 - PlainSymbols.countBits(2, version);
                for (int i = 0; i < room / 8; i++) {
                    int b = 128 + random.nextInt(128);
                    one.repeat(b, 1);
                    two.repeat(b, 1);
                }
                int mask = random.nextInt(8);
                Due.is(what, version, one.make(level, version, mask));
                Due.is(what, version, two.make(level, version, mask));
                compareMade(what, one, two);
                compareModules(what, one, two);
                Due.is(what + " least", version, one.make(level, 0, mask));
                Due.is(what + " wiped", room / 8, one.wipe());
                two.wipe();
                compareRead(what, one, two);
                one.repeat(200, 1);
                Due.is(what + " one more", NONE, one.make(level, version, mask));
                Due.is(what + " next", version < 40 ? version + 1 : NONE, one.make(level, 0, mask));
            }
        }
    }

    private static final int NONE = SquareSymbols.NONE;

    static void everyMask() {
        Random random = new Random(3);
        for (int i = 0; i < 120; i++) {
            SquareSymbols one = new SquareSymbols();
            PlainSymbols two = new PlainSymbols();
            addMixed(random, one, two, random.nextInt(60), 20);
            if (i % 4 == 0) {
                one.repeat(i, 100);
                two.repeat(i, 100);
            }
            int level = random.nextInt(4);
            int version = i % 3 == 0 ? 1 + random.nextInt(40) : 0;
            int mask = i % 2 == 0 ? NONE : random.nextInt(8);
            Due.is("mask", two.make(level, version, mask), one.make(level, version, mask));
            compareMade("mask " + i, one, two);
            compareModules("mask " + i, one, two);
        }
    }

    /** Codewords are spoiled, about as many as can be put right. */
    static void spoiledSymbols() {
        Random random = new Random(4);
        for (int i = 0; i < 260; i++) {
            SquareSymbols one = new SquareSymbols();
            PlainSymbols two = new PlainSymbols();
            int level = random.nextInt(4);
            int version = i % 2 == 0 ? 1 + random.nextInt(3) : 1 + random.nextInt(12);
            addMixed(random, one, two, random.nextInt(1 + PlainSymbols.holds(level, version) / 2), 9);
            one.make(level, version, 3);
            if (two.make(level, version, 3) == NONE) continue;
            List<int[]> way = PlainSymbols.way(PlainSymbols.fixed(version));
            List<int[]> order = PlainSymbols.order(level, version);
            int block = random.nextInt(PlainSymbols.BLOCKS[level][version - 1]);
            List<Integer> ofBlock = new ArrayList<>();
            for (int k = 0; k < order.size(); k++) if (order.get(k)[0] == block) ofBlock.add(k);
            java.util.Collections.shuffle(ofBlock, random);
            int wrong = Math.max(0, PlainSymbols.mendable(level, version) + random.nextInt(4) - 2);
            for (int w = 0; w < wrong && w < ofBlock.size(); w++) {
                int pattern = 1 + random.nextInt(255);
                for (int bit = 0; bit < 8; bit++) {
                    if ((pattern >> bit & 1) == 0) continue;
                    int[] at = way.get(8 * ofBlock.get(w) + bit);
                    Due.is("spoil", two.spoil(at[0], at[1], 1), one.spoil(at[0], at[1], 1));
                }
            }
            int spoiledForm = random.nextInt(6);
            for (int f = 0; f < spoiledForm; f++) {
                int[] at = PlainSymbols.formPlace(random.nextInt(2), random.nextInt(15), 17 + 4 * version);
                Due.is("spoil", two.spoil(at[0], at[1], 1), one.spoil(at[0], at[1], 1));
            }
            String what = "spoiled " + i;
            Due.is(what + " wiped", two.wipe(), one.wipe());
            compareRead(what, one, two);
            compareMade(what, one, two);
            compareModules(what, one, two);
        }
    }

    /** Symbols of bits that no make() would write, put there by blank() and spoil(). */
    static void randomBits() {
        Random random = new Random(5);
        String[] signs = {"0001", "0010", "0100", "0000", "0111", "1000", "0011"};
        for (int i = 0; i < 1500; i++) {
            int version = i % 50 == 0 ? 27 + random.nextInt(14) : i % 10 == 0 ? 10 + random.nextInt(5) : 1 + random.nextInt(4);
            int level = random.nextInt(4);
            int room = 8 * PlainSymbols.holds(level, version);
            StringBuilder bits = new StringBuilder();
            while (bits.length() < room) {
                int kind = random.nextInt(random.nextInt(4) == 0 ? 7 : 3);
                bits.append(signs[kind]);
                if (kind > 2) continue;
                int length = random.nextInt(random.nextInt(6) == 0 ? 200 : 12);
                bits.append(PlainSymbols.text(length, PlainSymbols.countBits(kind, version)));
                int rest = PlainSymbols.bytesBits(kind, length);
                for (int b = 0; b < rest; b++) bits.append(random.nextInt(5) == 0 ? 1 : 0);
            }
            int mask = random.nextInt(8);
            int[][] modules = PlainSymbols.symbolOf(bits.substring(0, room), level, version, mask);
            SquareSymbols one = new SquareSymbols();
            PlainSymbols two = new PlainSymbols();
            addMixed(random, one, two, 5, 3);
            Due.is("blank", two.blank(version), one.blank(version));
            show(modules, one);
            show(modules, two);
            compareRead("bits " + i, one, two);
        }
    }

    static void show(int[][] modules, SquareSymbols to) {
        for (int y = 0; y < modules.length; y++) {
            for (int x = 0; x < modules.length; x += 64) to.spoil(x, y, bitsFrom(modules[y], x));
        }
    }

    static void show(int[][] modules, PlainSymbols to) {
        for (int y = 0; y < modules.length; y++) {
            for (int x = 0; x < modules.length; x += 64) to.spoil(x, y, bitsFrom(modules[y], x));
        }
    }

    static long bitsFrom(int[] line, int x) {
        long bits = 0;
        for (int i = 0; i < 64 && x + i < line.length; i++) bits |= (long) line[x + i] << i;
        return bits;
    }

    static void randomCalls() {
        for (int run = 0; run < 60; run++) {
            Random random = new Random(100 + run);
            SquareSymbols one = new SquareSymbols();
            PlainSymbols two = new PlainSymbols();
            for (int i = 0; i < 60; i++) randomCall("run " + run + " call " + i, random, one, two);
            compareData("run " + run, one, two);
            compareModules("run " + run, one, two);
        }
    }

    static void randomCall(String what, Random random, SquareSymbols one, PlainSymbols two) {
        int x = random.nextInt(200) - 70;
        int y = random.nextInt(60) - 5;
        long bits = random.nextInt(3) == 0 ? random.nextLong() : 1L << random.nextInt(64);
        switch (random.nextInt(12)) {
            case 0:
                int n = 1 + random.nextInt(8);
                long bytes = random.nextLong() & 0x3f3f3f3f3f3f3f3fL;
                Due.is(what, two.put(n, bytes), one.put(n, bytes));
                break;
            case 1:
                int b = random.nextInt(256);
                int times = random.nextInt(random.nextInt(5) == 0 ? 3100 : 20);
                if (two.data.size() + times > 300 && two.data.size() + times <= 3000) times = 3;
                Due.is(what, two.repeat(b, times), one.repeat(b, times));
                break;
            case 2:
                if (random.nextInt(4) == 0) Due.is(what, two.wipe(), one.wipe());
                break;
            case 3:
            case 4:
                int level = random.nextInt(4);
                int version = random.nextInt(3) == 0 ? 1 + random.nextInt(10) : 0;
                int mask = random.nextInt(9) - 1;
                Due.is(what, two.make(level, version, mask), one.make(level, version, mask));
                break;
            case 5:
                if (random.nextInt(6) == 0) {
                    int v = 1 + random.nextInt(40);
                    Due.is(what, two.blank(v), one.blank(v));
                }
                break;
            case 6:
            case 7:
                Due.is(what, two.spoil(x, y, bits), one.spoil(x, y, bits));
                break;
            case 8:
                Due.is(what, two.row(x, y), one.row(x, y));
                break;
            default:
                compareRead(what, one, two);
                compareMade(what, one, two);
        }
    }
}
