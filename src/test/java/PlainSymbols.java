import java.util.ArrayList;
import java.util.Arrays;
import java.util.List;

/**
 * The document once more, written for plainness alone: module by module, texts of bits, slow
 * products, linear equations. The tests hold SquareSymbols against it.
 */
final class PlainSymbols {
    static final int NONE = -1;
    static final String SIGNS = "0123456789ABCDEFGHIJKLMNOPQRSTUVWXYZ $%*+-./:";

    static final int[][] CHECKS = {
        numbers("7 10 15 20 26 18 20 24 30 18 20 24 26 30 22 24 28 30 28 28 28 28 30 30 26 28 30 30 30 30 30 30 30 30 30 30 30 30 30 30"),
        numbers("10 16 26 18 24 16 18 22 22 26 30 22 22 24 24 28 28 26 26 26 26 28 28 28 28 28 28 28 28 28 28 28 28 28 28 28 28 28 28 28"),
        numbers("13 22 18 26 18 24 18 22 20 24 28 26 24 20 30 24 28 28 26 30 28 30 30 30 30 28 30 30 30 30 30 30 30 30 30 30 30 30 30 30"),
        numbers("17 28 22 16 22 28 26 26 24 28 24 28 22 24 24 30 28 28 26 28 30 24 30 30 30 30 30 30 30 30 30 30 30 30 30 30 30 30 30 30"),
    };
    static final int[][] BLOCKS = {
        numbers("1 1 1 1 1 2 2 2 2 4 4 4 4 4 6 6 6 6 7 8 8 9 9 10 12 12 12 13 14 15 16 17 18 19 19 20 21 22 24 25"),
        numbers("1 1 1 2 2 4 4 4 5 5 5 8 9 9 10 10 11 13 14 16 17 17 18 20 21 23 25 26 28 29 31 33 35 37 38 40 43 45 47 49"),
        numbers("1 1 2 2 4 4 6 6 8 8 8 10 12 16 12 17 16 18 21 20 23 23 25 27 29 34 34 35 38 40 43 45 48 51 53 56 59 62 65 68"),
        numbers("1 1 2 4 4 4 5 6 8 8 11 11 16 16 18 16 19 21 25 25 25 34 30 32 35 37 40 42 45 48 51 54 57 60 63 66 70 74 77 81"),
    };

    /** What is the same for each symbol of a version is found once. */
    private static final int[][][] FIXED = new int[41][][];
    private static final int[][][] WAYS = new int[41][][];
    private static final int[][] DIVISORS = new int[31][];

    List<Integer> data = new ArrayList<>();
    int[][] modules;
    int[] made;
    List<int[]> madeSegments;
    int[] found;
    int lastFault;

    // ---- the calls, wrong arguments left out ----

    int put(int n, long bytes) {
        if (data.size() + n > 3000) return NONE;
        for (int i = 0; i < n; i++) data.add((int) (bytes >> (8 * i) & 255));
        return data.size();
    }

    int repeat(int b, int n) {
        if ((long) data.size() + n > 3000) return NONE;
        for (int i = 0; i < n; i++) data.add(b);
        return data.size();
    }

    int wipe() {
        int n = data.size();
        data.clear();
        return n;
    }

    int at(int i) {
        return i >= 0 && i < data.size() ? data.get(i) : NONE;
    }

    int make(int level, int version, int mask) {
        for (int v = version == 0 ? 1 : version; v <= (version == 0 ? 40 : version); v++) {
            int[] modes = division(data, v);
            List<int[]> segments = segments(modes);
            int bits = bits(modes, v);
            boolean fits = bits <= 8 * holds(level, v);
            for (int[] s : segments) fits &= s[1] < 1 << countBits(s[0], v);
            if (!fits) continue;
            String text = written(data, segments, v);
            int best = mask;
            int least = Integer.MAX_VALUE;
            for (int k = 0; k < 8; k++) {
                if (mask != NONE && mask != k) continue;
                int p = penalty(symbolOf(text, level, v, k));
                if (p < least) {
                    least = p;
                    best = k;
                }
            }
            modules = symbolOf(text, level, v, best);
            made = new int[] {v, level, best, least, segments.size(), bits};
            madeSegments = segments;
            return v;
        }
        return NONE;
    }

    int blank(int version) {
        int side = 17 + 4 * version;
        modules = new int[side][side];
        made = null;
        madeSegments = null;
        return side;
    }

    int told(int what) {
        return made == null ? NONE : made[what];
    }

    int segment(int i, int what) {
        return madeSegments == null || i < 0 || i >= madeSegments.size() ? NONE : madeSegments.get(i)[what];
    }

    boolean isModule(long x, long y) {
        return modules != null && x >= 0 && y >= 0 && x < modules.length && y < modules.length;
    }

    long row(int x, int y) {
        long bits = 0;
        for (int i = 0; i < 64; i++) {
            long at = (long) x + i;
            if (isModule(at, y) && modules[y][(int) at] == 1) bits |= 1L << i;
        }
        return bits;
    }

    int spoil(int x, int y, long bits) {
        int count = 0;
        for (int i = 0; i < 64; i++) {
            long at = (long) x + i;
            if (isModule(at, y) && (bits >> i & 1) == 1) {
                modules[y][(int) at] ^= 1;
                count++;
            }
        }
        return count;
    }

    int read() {
        found = null;
        lastFault = 0;
        if (modules == null) return NONE;
        int version = (modules.length - 17) / 4;
        int form = formOf(modules, 0);
        if (form == NONE) form = formOf(modules, 1);
        if (form == NONE) return faulty(1);
        int level = new int[] {1, 0, 3, 2}[form / 8];
        int mask = form % 8;
        int[][] blocks = blocksOf(modules, level, version, mask);
        int mended = 0;
        StringBuilder bits = new StringBuilder();
        for (int[] block : blocks) {
            int wrong = mend(block, CHECKS[level][version - 1], mendable(level, version));
            if (wrong == NONE) return faulty(2);
            mended += wrong;
            for (int i = 0; i < block.length - CHECKS[level][version - 1]; i++) bits.append(text(block[i], 8));
        }
        List<Integer> out = new ArrayList<>();
        int[] count = new int[1];
        int fault = parse(bits.toString(), version, out, count);
        if (fault != 0) return faulty(fault);
        data = out;
        found = new int[] {level, mask, mended, count[0]};
        return data.size();
    }

    private int faulty(int fault) {
        lastFault = fault;
        return NONE;
    }

    int fault() {
        return lastFault;
    }

    int reading(int what) {
        return found == null ? NONE : found[what];
    }

    // ---- the division ----

    static int countBits(int mode, int version) {
        int span = version < 10 ? 0 : version < 27 ? 1 : 2;
        return new int[][] {{10, 12, 14}, {9, 11, 13}, {8, 16, 16}}[mode][span];
    }

    static boolean isOfMode(int b, int mode) {
        return mode == 2 || mode == 1 && SIGNS.indexOf(b) >= 0 || mode == 0 && b >= '0' && b <= '9';
    }

    static int bytesBits(int mode, int n) {
        if (mode == 0) return n / 3 * 10 + new int[] {0, 4, 7}[n % 3];
        return mode == 1 ? n / 2 * 11 + n % 2 * 6 : 8 * n;
    }

    static List<int[]> segments(int[] modes) {
        List<int[]> out = new ArrayList<>();
        for (int i = 0; i < modes.length; i++) {
            if (i == 0 || modes[i] != modes[i - 1]) out.add(new int[] {modes[i], 0});
            out.get(out.size() - 1)[1]++;
        }
        return out;
    }

    static int bits(int[] modes, int version) {
        int sum = 0;
        for (int[] s : segments(modes)) sum += 4 + countBits(s[0], version) + bytesBits(s[0], s[1]);
        return sum;
    }

    /**
     * Forwards: best[m] is the division of the first i bytes whose last segment ends there and
     * has mode m, by fewest bits, then by the order of the modes.
     */
    static int[] division(List<Integer> data, int version) {
        int n = data.size();
        int[][] bits = new int[n + 1][3];
        int[][] length = new int[n + 1][3];
        int[][] before = new int[n + 1][3];
        for (int end = 1; end <= n; end++) {
            for (int m = 0; m < 3; m++) {
                bits[end][m] = Integer.MAX_VALUE;
                for (int start = end - 1; start >= 0 && isOfMode(data.get(start), m); start--) {
                    for (int p = 0; p < 3; p++) {
                        if (start == 0 ? p > 0 : p == m || bits[start][p] == Integer.MAX_VALUE) continue;
                        int sum = (start == 0 ? 0 : bits[start][p]) + 4 + countBits(m, version) + bytesBits(m, end - start);
                        boolean better = sum < bits[end][m];
                        if (sum == bits[end][m]) {
                            int[] one = modesOf(length, before, end, m);
                            int oldLength = length[end][m];
                            int oldBefore = before[end][m];
                            length[end][m] = end - start;
                            before[end][m] = p;
                            better = isBefore(modesOf(length, before, end, m), one);
                            length[end][m] = oldLength;
                            before[end][m] = oldBefore;
                        }
                        if (better) {
                            bits[end][m] = sum;
                            length[end][m] = end - start;
                            before[end][m] = p;
                        }
                    }
                }
            }
        }
        int[] best = null;
        int least = Integer.MAX_VALUE;
        for (int m = 0; m < 3 && n > 0; m++) {
            if (bits[n][m] == Integer.MAX_VALUE) continue;
            int[] modes = modesOf(length, before, n, m);
            if (bits[n][m] < least || bits[n][m] == least && isBefore(modes, best)) {
                least = bits[n][m];
                best = modes;
            }
        }
        return best == null ? new int[0] : best;
    }

    private static int[] modesOf(int[][] length, int[][] before, int end, int m) {
        int[] modes = new int[end];
        while (end > 0) {
            int n = length[end][m];
            for (int i = end - n; i < end; i++) modes[i] = m;
            m = before[end][m];
            end -= n;
        }
        return modes;
    }

    static boolean isBefore(int[] a, int[] b) {
        for (int i = 0; i < a.length; i++) if (a[i] != b[i]) return a[i] < b[i];
        return false;
    }

    static String text(int number, int width) {
        StringBuilder out = new StringBuilder();
        for (int i = width - 1; i >= 0; i--) out.append(number >> i & 1);
        return out.toString();
    }

    static String written(List<Integer> data, List<int[]> segments, int version) {
        StringBuilder out = new StringBuilder();
        int at = 0;
        for (int[] s : segments) {
            out.append(new String[] {"0001", "0010", "0100"}[s[0]]).append(text(s[1], countBits(s[0], version)));
            int end = at + s[1];
            while (at < end) {
                int left = end - at;
                if (s[0] == 0) {
                    int n = Math.min(3, left);
                    int number = 0;
                    for (int i = 0; i < n; i++) number = 10 * number + data.get(at + i) - '0';
                    out.append(text(number, n == 3 ? 10 : n == 2 ? 7 : 4));
                    at += n;
                } else if (s[0] == 1 && left > 1) {
                    out.append(text(45 * SIGNS.indexOf(data.get(at)) + SIGNS.indexOf(data.get(at + 1)), 11));
                    at += 2;
                } else if (s[0] == 1) {
                    out.append(text(SIGNS.indexOf(data.get(at++)), 6));
                } else {
                    out.append(text(data.get(at++), 8));
                }
            }
        }
        return out.toString();
    }

    // ---- codewords ----

    static int[] numbers(String text) {
        String[] parts = text.split(" ");
        int[] out = new int[parts.length];
        for (int i = 0; i < out.length; i++) out[i] = Integer.parseInt(parts[i]);
        return out;
    }

    static int codewords(int v) {
        int bits = (16 * v + 128) * v + 64;
        int n = v / 7 + 2;
        if (v > 1) bits -= (25 * n - 10) * n - 55;
        if (v > 6) bits -= 36;
        return bits / 8;
    }

    static int holds(int level, int v) {
        return codewords(v) - BLOCKS[level][v - 1] * CHECKS[level][v - 1];
    }

    static int times(int a, int b) {
        int product = 0;
        for (int i = 0; i < 8; i++) if ((b >> i & 1) == 1) product ^= a << i;
        for (int i = 14; i >= 8; i--) if ((product >> i & 1) == 1) product ^= 285 << (i - 8);
        return product;
    }

    static int power(int a, int n) {
        int product = 1;
        for (int i = 0; i < n; i++) product = times(product, a);
        return product;
    }

    static int inverse(int a) {
        return power(a, 254);
    }

    /** The value of a word at x, its first item the coefficient of the highest power. */
    static int value(int[] word, int x) {
        int sum = 0;
        for (int w : word) sum = times(sum, x) ^ w;
        return sum;
    }

    /** The block with its check bytes behind it: the rest of a long division. */
    static int[] withChecks(int[] block, int checks) {
        if (DIVISORS[checks] == null) DIVISORS[checks] = newDivisor(checks);
        int[] divisor = DIVISORS[checks];
        int[] rest = Arrays.copyOf(block, block.length + checks);
        for (int i = 0; i < block.length; i++) {
            int factor = rest[i];
            for (int j = 0; j < divisor.length; j++) rest[i + j] ^= times(divisor[j], factor);
        }
        System.arraycopy(block, 0, rest, 0, block.length);
        return rest;
    }

    /** The product of x - 2 to the i, for i from 0 on. */
    private static int[] newDivisor(int checks) {
        int[] divisor = {1};
        for (int i = 0; i < checks; i++) {
            int[] product = new int[divisor.length + 1];
            for (int j = 0; j < divisor.length; j++) {
                product[j] ^= divisor[j];
                product[j + 1] ^= times(divisor[j], power(2, i));
            }
            divisor = product;
        }
        return divisor;
    }

    /** Bytes of a text of segments, filled up to what the version holds. */
    static int[] filled(String bits, int level, int v) {
        int room = 8 * holds(level, v);
        StringBuilder all = new StringBuilder(bits);
        for (int i = 0; i < 4 && all.length() < room; i++) all.append('0');
        while (all.length() % 8 != 0) all.append('0');
        for (int i = 0; all.length() < room; i++) all.append(text(i % 2 == 0 ? 236 : 17, 8));
        int[] out = new int[room / 8];
        for (int i = 0; i < out.length; i++) out[i] = Integer.parseInt(all.substring(8 * i, 8 * i + 8), 2);
        return out;
    }

    static int[] blockLengths(int level, int v) {
        int blocks = BLOCKS[level][v - 1];
        int holds = holds(level, v);
        int[] out = new int[blocks];
        for (int b = 0; b < blocks; b++) out[b] = holds / blocks + (b >= blocks - holds % blocks ? 1 : 0);
        return out;
    }

    /** For each codeword in order: its block and its place in the block. */
    static List<int[]> order(int level, int v) {
        List<int[]> out = new ArrayList<>();
        int[] lengths = blockLengths(level, v);
        for (int j = 0; j <= lengths[lengths.length - 1]; j++) {
            for (int b = 0; b < lengths.length; b++) if (j < lengths[b]) out.add(new int[] {b, j});
        }
        for (int j = 0; j < CHECKS[level][v - 1]; j++) {
            for (int b = 0; b < lengths.length; b++) out.add(new int[] {b, lengths[b] + j});
        }
        return out;
    }

    static int[] codewordsOf(int[] bytes, int level, int v) {
        int[] lengths = blockLengths(level, v);
        int[][] blocks = new int[lengths.length][];
        int at = 0;
        for (int b = 0; b < lengths.length; b++) {
            blocks[b] = withChecks(Arrays.copyOfRange(bytes, at, at + lengths[b]), CHECKS[level][v - 1]);
            at += lengths[b];
        }
        List<int[]> order = order(level, v);
        int[] out = new int[order.size()];
        for (int k = 0; k < out.length; k++) out[k] = blocks[order.get(k)[0]][order.get(k)[1]];
        return out;
    }

    // ---- modules ----

    /** The fixed modules: 0 light, 1 dark, 2 of the form, -1 none. */
    static int[][] fixed(int v) {
        if (FIXED[v] == null) FIXED[v] = newFixed(v);
        return FIXED[v];
    }

    private static int[][] newFixed(int v) {
        int s = 17 + 4 * v;
        int[][] out = new int[s][s];
        for (int[] line : out) Arrays.fill(line, -1);
        int[][] finders = {{3, 3}, {s - 4, 3}, {3, s - 4}};
        int n = v / 7 + 2;
        int step = v == 32 ? 26 : 2 * ((4 * v + 2 * n + 1) / (2 * n - 2));
        for (int y = 0; y < s; y++) {
            for (int x = 0; x < s; x++) {
                if (y == 6 || x == 6) out[y][x] = (y == 6 ? x : y) % 2 == 0 ? 1 : 0;
                for (int i = 0; i < n && v > 1; i++) {
                    for (int j = 0; j < n; j++) {
                        int cx = i == 0 ? 6 : s - 7 - (n - 1 - i) * step;
                        int cy = j == 0 ? 6 : s - 7 - (n - 1 - j) * step;
                        int d = Math.max(Math.abs(x - cx), Math.abs(y - cy));
                        boolean finder = cx == 6 && cy == 6 || cx == 6 && cy == s - 7 || cx == s - 7 && cy == 6;
                        if (!finder && d <= 2) out[y][x] = d == 1 ? 0 : 1;
                    }
                }
                for (int[] f : finders) {
                    int d = Math.max(Math.abs(x - f[0]), Math.abs(y - f[1]));
                    if (d <= 4) out[y][x] = d == 2 || d == 4 ? 0 : 1;
                }
            }
        }
        out[s - 8][8] = 1;
        for (int copy = 0; copy < 2; copy++) {
            for (int i = 0; i < 15; i++) {
                int[] at = formPlace(copy, i, s);
                out[at[1]][at[0]] = 2;
            }
        }
        if (v > 6) {
            int rest = rest(v * 4096, 7973);
            int word = v * 4096 + rest;
            for (int i = 0; i < 18; i++) {
                out[i / 3][s - 11 + i % 3] = word >> i & 1;
                out[s - 11 + i % 3][i / 3] = word >> i & 1;
            }
        }
        return out;
    }

    static int rest(int number, int polynomial) {
        while (Integer.highestOneBit(number) >= Integer.highestOneBit(polynomial)) {
            number ^= polynomial * (Integer.highestOneBit(number) / Integer.highestOneBit(polynomial));
        }
        return number;
    }

    static int[] formPlace(int copy, int i, int s) {
        if (copy == 1) return i <= 7 ? new int[] {s - 1 - i, 8} : new int[] {8, s - 15 + i};
        if (i <= 5) return new int[] {8, i};
        if (i == 6) return new int[] {8, 7};
        if (i == 7) return new int[] {8, 8};
        if (i == 8) return new int[] {7, 8};
        return new int[] {14 - i, 8};
    }

    static int formWord(int number) {
        return (1024 * number + rest(1024 * number, 1335)) ^ 21522;
    }

    static boolean isTurned(int k, int x, int y) {
        switch (k) {
            case 0: return (x + y) % 2 == 0;
            case 1: return y % 2 == 0;
            case 2: return x % 3 == 0;
            case 3: return (x + y) % 3 == 0;
            case 4: return (x / 3 + y / 2) % 2 == 0;
            case 5: return x * y % 2 + x * y % 3 == 0;
            case 6: return (x * y % 2 + x * y % 3) % 2 == 0;
            default: return ((x + y) % 2 + x * y % 3) % 2 == 0;
        }
    }

    /** The modules that are not fixed, as {x, y}, in the order of the codewords' bits. */
    static List<int[]> way(int[][] fixed) {
        int v = (fixed.length - 17) / 4;
        if (WAYS[v] == null) WAYS[v] = newWay(fixed).toArray(new int[0][]);
        return Arrays.asList(WAYS[v]);
    }

    private static List<int[]> newWay(int[][] fixed) {
        List<Integer> columns = new ArrayList<>();
        int s = fixed.length;
        for (int x = s - 1; x >= 0; x--) if (x != 6) columns.add(x);
        List<int[]> out = new ArrayList<>();
        boolean up = true;
        for (int c = 0; c < columns.size(); c += 2) {
            for (int i = 0; i < s; i++) {
                int y = up ? s - 1 - i : i;
                for (int x : new int[] {columns.get(c), columns.get(c + 1)}) if (fixed[y][x] == -1) out.add(new int[] {x, y});
            }
            up = !up;
        }
        return out;
    }

    static int[][] symbolOf(String bits, int level, int v, int mask) {
        return modulesOf(codewordsOf(filled(bits, level, v), level, v), level, v, mask);
    }

    static int[][] modulesOf(int[] codewords, int level, int v, int mask) {
        int[][] fixed = fixed(v);
        int s = fixed.length;
        int[][] out = new int[s][s];
        for (int y = 0; y < s; y++) for (int x = 0; x < s; x++) out[y][x] = Math.max(0, fixed[y][x]);
        List<int[]> way = way(fixed);
        for (int i = 0; i < way.size(); i++) {
            int x = way.get(i)[0];
            int y = way.get(i)[1];
            int bit = i / 8 < codewords.length ? codewords[i / 8] >> (7 - i % 8) & 1 : 0;
            out[y][x] = isTurned(mask, x, y) ? 1 - bit : bit;
        }
        int word = formWord(8 * new int[] {1, 0, 3, 2}[level] + mask);
        for (int copy = 0; copy < 2; copy++) {
            for (int i = 0; i < 15; i++) {
                int[] at = formPlace(copy, i, s);
                out[at[1]][at[0]] = word >> i & 1;
            }
        }
        return out;
    }

    static int penalty(int[][] m) {
        int s = m.length;
        int sum = 0;
        int dark = 0;
        for (int a = 0; a < s; a++) {
            StringBuilder across = new StringBuilder();
            StringBuilder down = new StringBuilder();
            for (int b = 0; b < s; b++) {
                across.append(m[a][b]);
                down.append(m[b][a]);
                dark += m[a][b];
                if (a + 1 < s && b + 1 < s && m[a][b] == m[a][b + 1] && m[a][b] == m[a + 1][b] && m[a][b] == m[a + 1][b + 1]) sum += 3;
            }
            sum += linePenalty(across.toString()) + linePenalty(down.toString());
        }
        int k = 0;
        // 5 k <= |100 dark / all - 50|
        while (5L * (k + 1) * s * s <= Math.abs(100L * dark - 50L * s * s)) k++;
        return sum + 10 * k;
    }

    private static int linePenalty(String line) {
        int sum = 0;
        int run = 0;
        for (int i = 0; i < line.length(); i++) {
            run = i > 0 && line.charAt(i) == line.charAt(i - 1) ? run + 1 : 1;
            if (run == 5) sum += 3;
            if (run > 5) sum += 1;
            if (line.startsWith("10111010000", i)) sum += 40;
            if (line.startsWith("00001011101", i)) sum += 40;
        }
        return sum;
    }

    // ---- reading ----

    static int formOf(int[][] m, int copy) {
        for (int number = 0; number < 32; number++) {
            int different = 0;
            for (int i = 0; i < 15; i++) {
                int[] at = formPlace(copy, i, m.length);
                if (m[at[1]][at[0]] != (formWord(number) >> i & 1)) different++;
            }
            if (different <= 3) return number;
        }
        return NONE;
    }

    static int[][] blocksOf(int[][] m, int level, int v, int mask) {
        int[] lengths = blockLengths(level, v);
        int[][] blocks = new int[lengths.length][];
        for (int b = 0; b < blocks.length; b++) blocks[b] = new int[lengths[b] + CHECKS[level][v - 1]];
        List<int[]> way = way(fixed(v));
        List<int[]> order = order(level, v);
        for (int i = 0; i < 8 * order.size(); i++) {
            int x = way.get(i)[0];
            int y = way.get(i)[1];
            int bit = isTurned(mask, x, y) ? 1 - m[y][x] : m[y][x];
            int[] at = order.get(i / 8);
            blocks[at[0]][at[1]] = 2 * blocks[at[0]][at[1]] + bit;
        }
        return blocks;
    }

    static int mendable(int level, int v) {
        int r = 0;
        if (v == 1) r = new int[] {3, 2, 1, 1}[level];
        if (v == 2 && level == 0) r = 2;
        if (v == 3 && level == 0) r = 1;
        return (CHECKS[level][v - 1] - r) / 2;
    }

    /** Puts a block right; how many places differed, NONE when it can't be. */
    static int mend(int[] block, int checks, int most) {
        int[] syndromes = new int[checks];
        boolean right = true;
        for (int i = 0; i < checks; i++) {
            syndromes[i] = value(block, power(2, i));
            right &= syndromes[i] == 0;
        }
        if (right) return 0;
        for (int wrong = 1; wrong <= most; wrong++) {
            int[] tried = mended(block, syndromes, wrong);
            if (tried == null) continue;
            boolean whole = true;
            for (int i = 0; i < checks; i++) whole &= value(tried, power(2, i)) == 0;
            int different = 0;
            for (int i = 0; i < block.length; i++) if (tried[i] != block[i]) different++;
            if (whole && different <= most) {
                System.arraycopy(tried, 0, block, 0, block.length);
                return different;
            }
        }
        return NONE;
    }

    /** With so many wrong: the locator from linear equations, then the differences from others. */
    private static int[] mended(int[] block, int[] syndromes, int wrong) {
        int[][] rows = new int[wrong][wrong + 1];
        for (int i = 0; i < wrong; i++) {
            for (int j = 0; j <= wrong; j++) rows[i][j] = syndromes[i + j];
        }
        int[] locator = solved(rows);
        if (locator == null) return null;
        List<Integer> places = new ArrayList<>();
        for (int p = 0; p < block.length; p++) {
            int x = power(2, p);
            int sum = power(x, wrong);
            for (int j = 0; j < wrong; j++) sum ^= times(locator[j], power(x, j));
            if (sum == 0) places.add(p);
        }
        if (places.size() != wrong) return null;
        for (int i = 0; i < wrong; i++) {
            for (int j = 0; j < wrong; j++) rows[i][j] = power(power(2, places.get(j)), i);
            rows[i][wrong] = syndromes[i];
        }
        int[] differences = solved(rows);
        if (differences == null) return null;
        int[] out = block.clone();
        for (int j = 0; j < wrong; j++) out[block.length - 1 - places.get(j)] ^= differences[j];
        return out;
    }

    private static int[] solved(int[][] given) {
        int n = given.length;
        int[][] rows = new int[n][];
        for (int i = 0; i < n; i++) rows[i] = given[i].clone();
        for (int c = 0; c < n; c++) {
            int pivot = c;
            while (pivot < n && rows[pivot][c] == 0) pivot++;
            if (pivot == n) return null;
            int[] swapped = rows[c];
            rows[c] = rows[pivot];
            rows[pivot] = swapped;
            int by = inverse(rows[c][c]);
            for (int j = 0; j <= n; j++) rows[c][j] = times(rows[c][j], by);
            for (int i = 0; i < n; i++) {
                int factor = rows[i][c];
                if (i == c || factor == 0) continue;
                for (int j = 0; j <= n; j++) rows[i][j] ^= times(factor, rows[c][j]);
            }
        }
        int[] out = new int[n];
        for (int i = 0; i < n; i++) out[i] = rows[i][n];
        return out;
    }

    /** Reads the segments of a text of bits; answers the fault. */
    static int parse(String bits, int version, List<Integer> out, int[] segments) {
        int at = 0;
        while (bits.length() - at >= 4) {
            String sign = bits.substring(at, at + 4);
            at += 4;
            if (sign.equals("0000")) return 0;
            int mode = sign.equals("0001") ? 0 : sign.equals("0010") ? 1 : sign.equals("0100") ? 2 : NONE;
            if (mode == NONE) return 3;
            int width = countBits(mode, version);
            if (bits.length() - at < width) return 4;
            int left = Integer.parseInt(bits.substring(at, at + width), 2);
            at += width;
            if (out.size() + left > 3000) return 6;
            while (left > 0) {
                int n = Math.min(left, 3 - mode);
                int w = mode == 0 ? new int[] {0, 4, 7, 10}[n] : mode == 1 ? new int[] {0, 6, 11}[n] : 8;
                if (bits.length() - at < w) return 4;
                int number = Integer.parseInt(bits.substring(at, at + w), 2);
                at += w;
                if (mode == 0) {
                    if (number >= new int[] {0, 10, 100, 1000}[n]) return 5;
                    String digits = String.format("%0" + n + "d", number);
                    for (int i = 0; i < n; i++) out.add((int) digits.charAt(i));
                } else if (mode == 1) {
                    if (number >= (n == 1 ? 45 : 2025)) return 5;
                    if (n == 2) out.add((int) SIGNS.charAt(number / 45));
                    out.add((int) SIGNS.charAt(number % 45));
                } else {
                    out.add(number);
                }
                left -= n;
            }
            segments[0]++;
        }
        return 0;
    }
}
