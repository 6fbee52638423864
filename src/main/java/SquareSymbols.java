import java.util.Arrays;

/**
 * Square symbols of dark and light modules for any bytes, in forty versions and four levels of
 * correction: made with the fewest bits and the mask of least penalty, spoiled, and read back
 * from their modules.
 *
 * All rows are made once, with the object, and used again by every call.
 */
public final class SquareSymbols {
    public static final int NONE = -1;

    private static final int MOST_BYTES = 3000;
    private static final int MOST_VERSION = 40;
    private static final int MASKS = 8;
    /** Above every count of bits and every penalty. */
    private static final int HUGE = 1 << 30;

    private static final int DIGIT = 0;
    private static final int SIGN = 1;
    private static final int BYTE = 2;
    private static final int MODES = 3;
    private static final String SIGNS = "0123456789ABCDEFGHIJKLMNOPQRSTUVWXYZ $%*+-./:";

    /** No byte has less: the third digit of a group adds three bits. */
    private static final int LEAST_BITS_OF_BYTE = 3;
    /**
     * The 23648 bits that a symbol holds at most, by the 22 that a segment has at least from
     * version 27 on; the smaller versions have room for fewer.
     */
    private static final int MOST_SEGMENTS = 1074;

    private static final int NO_FORM = 1;
    private static final int BLOCK_LOST = 2;
    private static final int NO_MODE = 3;
    private static final int BITS_END = 4;
    private static final int NO_NUMBER = 5;
    private static final int TOO_MANY = 6;

    private final Data data;
    private final Division division;
    private final Codewords codewords;
    private final Mender mender;
    private final Parser parser;
    private final Grid symbol;
    private final Frame frame;
    private final Penalty judge;

    private boolean isMade;
    /** Version, level, mask, penalty, segments and bits of what was made last. */
    private final int[] made;
    /** Of each segment of what was made last: four times how many bytes it has, and its mode. */
    private final int[] madeSegments;

    private boolean isRead;
    /** Level, mask, codewords put right and segments of the last reading. */
    private final int[] found;
    private int lastFault;

    public SquareSymbols() {
        Field field = new Field();
        data = new Data();
        division = new Division();
        codewords = new Codewords(field);
        mender = new Mender(field);
        parser = new Parser(codewords);
        symbol = new Grid();
        frame = new Frame();
        judge = new Penalty();
        made = new int[6];
        madeSegments = new int[MOST_SEGMENTS];
        found = new int[4];
    }

    public int put(int n, long bytes) throws IllegalArgumentException {
        if (n < 1 || n > 8) {
            throw new IllegalArgumentException("n is not 1 .. 8");
        }
        if (!data.hasRoomFor(n)) {
            return NONE;
        }
        for (int i = 0; i < n; i++) {
            data.add((int) (bytes >>> 8 * i) & 255);
        }
        return data.size();
    }

    public int repeat(int b, int n) throws IllegalArgumentException {
        if (b < 0 || b > 255) {
            throw new IllegalArgumentException("b is not 0 .. 255");
        }
        if (n < 0) {
            throw new IllegalArgumentException("n is below 0");
        }
        if (!data.hasRoomFor(n)) {
            return NONE;
        }
        for (int i = 0; i < n; i++) {
            data.add(b);
        }
        return data.size();
    }

    public int wipe() {
        int size = data.size();
        data.clear();
        return size;
    }

    public int at(int i) {
        return data.get(i);
    }

    public int make(int level, int version, int mask) throws IllegalArgumentException {
        if (level < 0 || level > 3) {
            throw new IllegalArgumentException("level is not 0 .. 3");
        }
        if (version < 0 || version > MOST_VERSION) {
            throw new IllegalArgumentException("version is not 0 .. 40");
        }
        if (mask != NONE && (mask < 0 || mask >= MASKS)) {
            throw new IllegalArgumentException("mask is not NONE or 0 .. 7");
        }
        int fitting = fittingVersion(level, version);
        if (fitting == NONE) {
            return NONE;
        }
        writeCodewords(level, fitting);
        frame.lay(fitting);
        symbol.copy(frame.dark);
        frame.placeCodewords(codewords, symbol);
        dressBest(level, mask);
        made[0] = fitting;
        made[1] = level;
        made[5] = division.bits();
        isMade = true;
        return fitting;
    }

    public int blank(int version) throws IllegalArgumentException {
        if (version < 1 || version > MOST_VERSION) {
            throw new IllegalArgumentException("version is not 1 .. 40");
        }
        symbol.clear(Version.side(version));
        isMade = false;
        return symbol.side();
    }

    public int told(int what) throws IllegalArgumentException {
        if (what < 0 || what > 5) {
            throw new IllegalArgumentException("what is not 0 .. 5");
        }
        return isMade ? item(made, what) : NONE;
    }

    public int segment(int i, int what) throws IllegalArgumentException {
        if (what < 0 || what > 1) {
            throw new IllegalArgumentException("what is not 0 or 1");
        }
        if (!isMade || i < 0 || i >= made[4]) {
            return NONE;
        }
        int told = item(madeSegments, i);
        return what == 0 ? told & 3 : told >> 2;
    }

    public long row(int x, int y) {
        return symbol.from(x, y);
    }

    public int spoil(int x, int y, long bits) {
        return symbol.turnFrom(x, y, bits);
    }

    public int read() {
        isRead = false;
        lastFault = 0;
        if (symbol.side() == 0) {
            return NONE;
        }
        lastFault = readSymbol(Version.ofSide(symbol.side()));
        if (lastFault != 0) {
            return NONE;
        }
        isRead = true;
        return data.size();
    }

    public int fault() {
        return lastFault;
    }

    public int reading(int what) throws IllegalArgumentException {
        if (what < 0 || what > 3) {
            throw new IllegalArgumentException("what is not 0 .. 3");
        }
        return isRead ? item(found, what) : NONE;
    }

    /** The least version that does, of all for 0; the data is then divided for it. */
    private int fittingVersion(int level, int version) {
        int first = version == 0 ? 1 : version;
        int last = version == 0 ? MOST_VERSION : version;
        int divided = NONE;
        for (int v = first; v <= last; v++) {
            int room = 8 * Version.holds(level, v);
            if (LEAST_BITS_OF_BYTE * data.size() > room) {
                continue;
            }
            // Versions of one span have the same division.
            if (Version.span(v) != divided) {
                division.divide(data, v);
                divided = Version.span(v);
            }
            if (division.fits(room, v)) {
                return v;
            }
        }
        return NONE;
    }

    private void writeCodewords(int level, int version) {
        codewords.begin(level, version);
        division.rewind();
        int segments = 0;
        for (int i = 0; i < madeSegments.length && division.advance(); i++) {
            madeSegments[i] = 4 * division.length() + division.mode();
            codewords.appendSegment(data, division.from(), division.length(), division.mode());
            segments++;
        }
        codewords.fillUp();
        codewords.addChecks();
        made[4] = segments;
    }

    private void dressBest(int level, int mask) {
        int best = mask;
        int least = HUGE;
        for (int k = 0; k < MASKS && mask == NONE; k++) {
            dress(level, k);
            int penalty = judge.of(symbol);
            if (penalty < least) {
                least = penalty;
                best = k;
            }
            frame.turnMask(symbol);
        }
        dress(level, best);
        made[2] = best;
        made[3] = mask == NONE ? least : judge.of(symbol);
    }

    private void dress(int level, int mask) {
        frame.chooseMask(mask);
        frame.turnMask(symbol);
        Frame.drawForm(symbol, level, mask);
    }

    /** Answers the fault; only without one the data changes. */
    private int readSymbol(int version) {
        int form = Frame.formNumber(symbol);
        if (form == NONE) {
            return NO_FORM;
        }
        int level = form >> 3 ^ 1;
        int mask = form & 7;
        codewords.begin(level, version);
        frame.lay(version);
        frame.chooseMask(mask);
        frame.turnMask(symbol);
        frame.takeCodewords(symbol, codewords);
        frame.turnMask(symbol);
        int mended = mender.mendAll(codewords, Version.mendable(level, version));
        if (mended == NONE) {
            return BLOCK_LOST;
        }
        int fault = parser.parse(version, null);
        if (fault != 0) {
            return fault;
        }
        data.clear();
        parser.parse(version, data);
        found[0] = level;
        found[1] = mask;
        found[2] = mended;
        found[3] = parser.segments();
        return 0;
    }

    /** An item of a row; 0 when there is none such. */
    private static int item(int[] items, int i) {
        return i >= 0 && i < items.length ? items[i] : 0;
    }

    /** A long with its n lowest bits 1. */
    private static long lowBits(int n) {
        return n <= 0 ? 0L : n >= 64 ? -1L : (1L << n) - 1;
    }

    /** The data: a row of up to 3000 bytes. */
    private static final class Data {
        private final byte[] bytes = new byte[MOST_BYTES];
        private int size;

        int size() {
            return size;
        }

        boolean hasRoomFor(int n) {
            return n <= bytes.length - size;
        }

        void add(int b) {
            if (size >= 0 && size < bytes.length) {
                bytes[size] = (byte) b;
                size++;
            }
        }

        void clear() {
            size = 0;
        }

        int get(int i) {
            return i >= 0 && i < size && i < bytes.length ? bytes[i] & 255 : NONE;
        }
    }

    /** How bytes of a mode are numbers, and groups of them bits. */
    private static final class Mode {
        static int least(int b) {
            if (b >= '0' && b <= '9') {
                return DIGIT;
            }
            return SIGNS.indexOf((char) b) >= 0 ? SIGN : BYTE;
        }

        static int base(int mode) {
            return mode == DIGIT ? 10 : mode == SIGN ? 45 : 256;
        }

        static int groupSize(int mode) {
            return MODES - mode;
        }

        static int groupBits(int mode, int size) {
            return mode == DIGIT ? 3 * size + 1 : mode == SIGN ? 5 * size + 1 : 8 * size;
        }

        /** How many numbers a group of so many bytes can be. */
        static int groupNumbers(int mode, int size) {
            int numbers = 1;
            for (int i = 0; i < size; i++) {
                numbers *= base(mode);
            }
            return numbers;
        }

        static int numberOf(int mode, int b) {
            return mode == BYTE ? b : SIGNS.indexOf((char) b);
        }

        static int byteOf(int mode, int number) {
            boolean isSign = mode != BYTE && number >= 0 && number < SIGNS.length();
            return isSign ? SIGNS.charAt(number) : number;
        }
    }

    /** The numbers of the versions and levels. */
    private static final class Version {
        private static final int[] CHECKS = {
            7, 10, 15, 20, 26, 18, 20, 24, 30, 18, 20, 24, 26, 30, 22, 24, 28, 30, 28, 28,
            28, 28, 30, 30, 26, 28, 30, 30, 30, 30, 30, 30, 30, 30, 30, 30, 30, 30, 30, 30,
            10, 16, 26, 18, 24, 16, 18, 22, 22, 26, 30, 22, 22, 24, 24, 28, 28, 26, 26, 26,
            26, 28, 28, 28, 28, 28, 28, 28, 28, 28, 28, 28, 28, 28, 28, 28, 28, 28, 28, 28,
            13, 22, 18, 26, 18, 24, 18, 22, 20, 24, 28, 26, 24, 20, 30, 24, 28, 28, 26, 30,
            28, 30, 30, 30, 30, 28, 30, 30, 30, 30, 30, 30, 30, 30, 30, 30, 30, 30, 30, 30,
            17, 28, 22, 16, 22, 28, 26, 26, 24, 28, 24, 28, 22, 24, 24, 30, 28, 28, 26, 28,
            30, 24, 30, 30, 30, 30, 30, 30, 30, 30, 30, 30, 30, 30, 30, 30, 30, 30, 30, 30,
        };
        private static final int[] BLOCKS = {
            1, 1, 1, 1, 1, 2, 2, 2, 2, 4, 4, 4, 4, 4, 6, 6, 6, 6, 7, 8,
            8, 9, 9, 10, 12, 12, 12, 13, 14, 15, 16, 17, 18, 19, 19, 20, 21, 22, 24, 25,
            1, 1, 1, 2, 2, 4, 4, 4, 5, 5, 5, 8, 9, 9, 10, 10, 11, 13, 14, 16,
            17, 17, 18, 20, 21, 23, 25, 26, 28, 29, 31, 33, 35, 37, 38, 40, 43, 45, 47, 49,
            1, 1, 2, 2, 4, 4, 6, 6, 8, 8, 8, 10, 12, 16, 12, 17, 16, 18, 21, 20,
            23, 23, 25, 27, 29, 34, 34, 35, 38, 40, 43, 45, 48, 51, 53, 56, 59, 62, 65, 68,
            1, 1, 2, 4, 4, 4, 5, 6, 8, 8, 11, 11, 16, 16, 18, 16, 19, 21, 25, 25,
            25, 34, 30, 32, 35, 37, 40, 42, 45, 48, 51, 54, 57, 60, 63, 66, 70, 74, 77, 81,
        };
        /** Bits that tell how many bytes a segment has, of each mode and span. */
        private static final int[] COUNT_BITS = {10, 12, 14, 9, 11, 13, 8, 16, 16};

        static int side(int version) {
            return 17 + 4 * version;
        }

        static int ofSide(int side) {
            return (side - 17) / 4;
        }

        /** Versions of one span tell in the same bits how many bytes a segment has. */
        static int span(int version) {
            return version <= 9 ? 0 : version <= 26 ? 1 : 2;
        }

        static int countBits(int mode, int version) {
            return item(COUNT_BITS, 3 * mode + span(version));
        }

        static int codewords(int version) {
            int bits = (16 * version + 128) * version + 64;
            if (version > 1) {
                int n = version / 7 + 2;
                bits -= (25 * n - 10) * n - 55;
            }
            return (version > 6 ? bits - 36 : bits) / 8;
        }

        static int checks(int level, int version) {
            return item(CHECKS, MOST_VERSION * level + version - 1);
        }

        static int blocks(int level, int version) {
            return Math.max(1, item(BLOCKS, MOST_VERSION * level + version - 1));
        }

        static int holds(int level, int version) {
            return codewords(version) - blocks(level, version) * checks(level, version);
        }

        /** In how many places a block may differ from the codeword that it becomes. */
        static int mendable(int level, int version) {
            int kept = 0;
            if (version == 1) {
                kept = Math.max(1, 3 - level);
            } else if (level == 0 && version <= 3) {
                kept = 4 - version;
            }
            return (checks(level, version) - kept) / 2;
        }
    }

    /** Divides the data into the segments with the fewest bits. */
    private static final class Division {
        /**
         * The states of the segment so far, all that the bits of further bytes hang on: digits
         * with 1, 2 or 3 in the last group, signs with 1 or 2, bytes; and no segment yet.
         */
        private static final int NO_RUN = 6;
        private static final int[] MODE = {DIGIT, DIGIT, DIGIT, SIGN, SIGN, BYTE, NONE};
        private static final int[] NEXT = {1, 2, 0, 4, 3, 5, NO_RUN};
        private static final int[] NEXT_BITS = {3, 3, 4, 5, 6, 8, 0};
        private static final int[] FIRST = {0, 3, 5};

        private final int[] choices = new int[MOST_BYTES];
        private final int[] bitsBehind = new int[NO_RUN + 1];
        private final int[] bitsHere = new int[NO_RUN + 1];
        private final int[] freshBits = new int[MODES];
        private int size;
        private int from;
        private int next;
        private int mode;
        private int state;

        void divide(Data data, int version) {
            size = Math.min(data.size(), choices.length);
            Arrays.fill(bitsBehind, 0);
            // From the last byte to the first, so that the walk forwards can take the least mode
            // of those that lead to the fewest bits: that is the first row of modes in order.
            for (int i = size - 1; i >= 0; i--) {
                choices[i] = chooseModes(Mode.least(data.get(i)), version);
            }
            rewind();
        }

        /** The modes to take at a byte, two bits for each state in which it may be met. */
        private int chooseModes(int least, int version) {
            for (int m = least; m < MODES; m++) {
                int begun = 4 + Version.countBits(m, version) + Mode.groupBits(m, 1);
                freshBits[m] = begun + item(bitsBehind, item(FIRST, m));
            }
            int chosen = 0;
            for (int s = 0; s <= NO_RUN; s++) {
                int best = BYTE;
                int fewest = HUGE;
                for (int m = least; m < MODES; m++) {
                    int bits = m == MODE[s] ? NEXT_BITS[s] + bitsBehind[NEXT[s]] : freshBits[m];
                    if (bits < fewest) {
                        fewest = bits;
                        best = m;
                    }
                }
                bitsHere[s] = fewest;
                chosen |= best << 2 * s;
            }
            System.arraycopy(bitsHere, 0, bitsBehind, 0, bitsHere.length);
            return chosen;
        }

        int bits() {
            return bitsBehind[NO_RUN];
        }

        boolean fits(int room, int version) {
            if (bits() > room) {
                return false;
            }
            rewind();
            for (int i = 0; i < size && advance(); i++) {
                if (length() >= 1 << Version.countBits(mode, version)) {
                    return false;
                }
            }
            return true;
        }

        void rewind() {
            from = 0;
            next = 0;
            state = NO_RUN;
        }

        /** Goes to the next segment; false when there is none. */
        boolean advance() {
            if (next >= size) {
                return false;
            }
            from = next;
            mode = choice(from);
            state = item(FIRST, mode);
            next++;
            while (next < size && choice(next) == mode) {
                state = item(NEXT, state);
                next++;
            }
            return true;
        }

        private int choice(int i) {
            return item(choices, i) >> 2 * state & 3;
        }

        int from() {
            return from;
        }

        int length() {
            return next - from;
        }

        int mode() {
            return mode;
        }
    }

    /** The field of 256 elements. */
    private static final class Field {
        private final int[] powers = new int[512];
        private final int[] logs = new int[256];

        Field() {
            int power = 1;
            for (int i = 0; i < 255; i++) {
                powers[i] = power;
                powers[i + 255] = power;
                logs[power & 255] = i;
                power = power << 1 ^ (power >> 7) * 285;
            }
        }

        /** 2 to the n, n from 0 to 509. */
        int power(int n) {
            return powers[n & 511];
        }

        int times(int a, int b) {
            return a == 0 || b == 0 ? 0 : powers[logs[a & 255] + logs[b & 255] & 511];
        }

        /** The quotient; 0 for a divisor 0. */
        int over(int a, int b) {
            return a == 0 || b == 0 ? 0 : powers[logs[a & 255] + 255 - logs[b & 255] & 511];
        }

        /** The value at x of the polynomial with so many coefficients, the lowest first. */
        int value(int[] coefficients, int count, int x) {
            int sum = 0;
            for (int i = Math.min(count, coefficients.length) - 1; i >= 0; i--) {
                sum = times(sum, x) ^ coefficients[i];
            }
            return sum;
        }
    }

    /** The bytes of all blocks, block by block, and behind them their check bytes likewise. */
    private static final class Codewords {
        private static final int MOST = 3706;
        private static final int MOST_CHECKS = 30;

        private final Field field;
        private final byte[] bytes = new byte[MOST];
        private final int[] generator = new int[MOST_CHECKS + 1];
        /** One longer than the check bytes, so that a 0 comes in behind the last one. */
        private final int[] rest = new int[MOST_CHECKS + 1];
        private int version;
        private int total;
        private int holds;
        private int blocks = 1;
        private int checks;
        private int shortLength;
        private int shortBlocks;
        private int filled;
        private int waiting;
        private int waitingBits;

        Codewords(Field field) {
            this.field = field;
        }

        void begin(int level, int version) {
            this.version = version;
            total = Version.codewords(version);
            holds = Version.holds(level, version);
            blocks = Math.max(1, Version.blocks(level, version));
            checks = Math.min(MOST_CHECKS, Version.checks(level, version));
            shortLength = holds / blocks;
            shortBlocks = blocks - holds % blocks;
            filled = 0;
            waiting = 0;
            waitingBits = 0;
        }

        int total() {
            return total;
        }

        int holds() {
            return holds;
        }

        int blocks() {
            return blocks;
        }

        int checks() {
            return checks;
        }

        int get(int i) {
            return i >= 0 && i < bytes.length ? bytes[i] & 255 : 0;
        }

        void set(int i, int b) {
            if (i >= 0 && i < bytes.length) {
                bytes[i] = (byte) b;
            }
        }

        int length(int block) {
            return block < shortBlocks ? shortLength : shortLength + 1;
        }

        private int start(int block) {
            return block * shortLength + Math.max(0, block - shortBlocks);
        }

        /** Where byte j of a block is, its check bytes counted behind its others. */
        int placeInBlock(int block, int j) {
            int length = length(block);
            return j < length ? start(block) + j : holds + block * checks + j - length;
        }

        /** Where codeword k, in the order of the symbol, is. */
        int placeInOrder(int k) {
            int count = Math.max(1, blocks);
            if (k < shortLength * count) {
                return placeInBlock(k % count, k / count);
            }
            if (k < holds) {
                return placeInBlock(shortBlocks + k - shortLength * count, shortLength);
            }
            int check = k - holds;
            return holds + check % count * checks + check / count;
        }

        void appendSegment(Data data, int from, int length, int mode) {
            appendBits(1 << mode, 4);
            appendBits(length, Version.countBits(mode, version));
            int group = Math.max(1, Mode.groupSize(mode));
            for (int i = 0; i < length; i += group) {
                int size = Math.min(group, length - i);
                int number = 0;
                for (int j = 0; j < size; j++) {
                    int part = Mode.numberOf(mode, data.get(from + i + j));
                    number = Mode.base(mode) * number + part;
                }
                appendBits(number, Mode.groupBits(mode, size));
            }
        }

        private void appendBits(int value, int width) {
            waiting = waiting << width | value;
            waitingBits += width;
            while (waitingBits >= 8) {
                waitingBits -= 8;
                set(filled, waiting >> waitingBits);
                filled++;
            }
            waiting &= (1 << waitingBits) - 1;
        }

        void fillUp() {
            int room = 8 * (holds - filled) - waitingBits;
            appendBits(0, Math.max(0, Math.min(4, room)));
            appendBits(0, 8 - waitingBits & 7);
            int pad = 236;
            for (; filled < holds; filled++) {
                set(filled, pad);
                pad ^= 236 ^ 17;
            }
        }

        void addChecks() {
            prepareGenerator();
            for (int block = 0; block < blocks; block++) {
                addChecksOf(block);
            }
        }

        /** The polynomial that is 0 at 2 to the 0, 1, .., without its highest coefficient 1. */
        private void prepareGenerator() {
            Arrays.fill(generator, 0);
            if (checks < 1 || checks > MOST_CHECKS) {
                return;
            }
            generator[checks - 1] = 1;
            for (int i = 0; i < checks; i++) {
                for (int j = 0; j < checks; j++) {
                    generator[j] = field.times(generator[j], field.power(i)) ^ generator[j + 1];
                }
            }
        }

        private void addChecksOf(int block) {
            Arrays.fill(rest, 0);
            int length = length(block);
            for (int j = 0; j < length; j++) {
                int factor = get(placeInBlock(block, j)) ^ rest[0];
                for (int i = 0; i < checks && i < MOST_CHECKS; i++) {
                    rest[i] = rest[i + 1] ^ field.times(generator[i], factor);
                }
            }
            for (int i = 0; i < checks && i < MOST_CHECKS; i++) {
                set(placeInBlock(block, length + i), rest[i]);
            }
        }
    }

    /** Puts blocks right. */
    private static final class Mender {
        private static final int MOST_LENGTH = 255;
        private static final int MOST_TERMS = 32;

        private final Field field;
        /** The bytes of the block as coefficients, the lowest first. */
        private final int[] block = new int[MOST_LENGTH];
        private final int[] syndromes = new int[MOST_TERMS];
        private final int[] locator = new int[MOST_TERMS];
        private final int[] olderLocator = new int[MOST_TERMS];
        private final int[] keptLocator = new int[MOST_TERMS];
        private final int[] evaluator = new int[MOST_TERMS];
        private final int[] places = new int[MOST_TERMS];

        Mender(Field field) {
            this.field = field;
        }

        /** How many codewords were put right in all blocks; NONE when a block can't be. */
        int mendAll(Codewords words, int most) {
            int all = 0;
            for (int b = 0; b < words.blocks(); b++) {
                int mended = mend(words, b, most);
                if (mended == NONE) {
                    return NONE;
                }
                all += mended;
            }
            return all;
        }

        private int mend(Codewords words, int b, int most) {
            int checks = Math.min(words.checks(), MOST_TERMS);
            int length = Math.min(words.length(b) + checks, MOST_LENGTH);
            for (int i = 0; i < length; i++) {
                block[i] = words.get(words.placeInBlock(b, length - 1 - i));
            }
            if (!findSyndromes(length, checks)) {
                return 0;
            }
            int wrong = findLocator(checks);
            if (wrong > most || findPlaces(length, wrong) != wrong) {
                return NONE;
            }
            findEvaluator(wrong);
            for (int i = 0; i < wrong && i < places.length; i++) {
                int at = words.placeInBlock(b, length - 1 - places[i]);
                words.set(at, words.get(at) ^ difference(places[i], wrong));
            }
            return wrong;
        }

        /** The values where a codeword is 0; false when all are. */
        private boolean findSyndromes(int length, int checks) {
            int any = 0;
            for (int i = 0; i < checks && i < syndromes.length; i++) {
                syndromes[i] = field.value(block, length, field.power(i));
                any |= syndromes[i];
            }
            return any != 0;
        }

        /**
         * The shortest recurrence of the syndromes (by Berlekamp and Massey): its terms are the
         * polynomial that is 0 at the inverse of each wrong place. Answers its length.
         */
        private int findLocator(int checks) {
            Arrays.fill(locator, 0);
            Arrays.fill(olderLocator, 0);
            locator[0] = 1;
            olderLocator[0] = 1;
            int length = 0;
            int behind = 1;
            int olderMiss = 1;
            for (int n = 0; n < checks; n++) {
                int miss = missAt(n, length);
                if (miss == 0) {
                    behind++;
                    continue;
                }
                System.arraycopy(locator, 0, keptLocator, 0, MOST_TERMS);
                addOlder(field.over(miss, olderMiss), behind);
                behind++;
                if (2 * length <= n) {
                    length = n + 1 - length;
                    System.arraycopy(keptLocator, 0, olderLocator, 0, MOST_TERMS);
                    olderMiss = miss;
                    behind = 1;
                }
            }
            return length;
        }

        /** By how much the recurrence so far misses syndrome n. */
        private int missAt(int n, int length) {
            int miss = 0;
            for (int i = 0; i <= length && i <= n && n < MOST_TERMS; i++) {
                miss ^= field.times(locator[i], syndromes[n - i]);
            }
            return miss;
        }

        private void addOlder(int factor, int shift) {
            for (int i = 0; shift >= 0 && i + shift < MOST_TERMS; i++) {
                locator[i + shift] ^= field.times(factor, olderLocator[i]);
            }
        }

        /** The wrong places, counted from the last byte; answers how many there are. */
        private int findPlaces(int length, int wrong) {
            int count = 0;
            for (int i = 0; i < length && count < places.length; i++) {
                if (field.value(locator, wrong + 1, field.power(255 - i)) == 0) {
                    places[count] = i;
                    count++;
                }
            }
            return count;
        }

        /** The lowest terms of the syndromes times the locator. */
        private void findEvaluator(int wrong) {
            for (int i = 0; i < wrong && i < evaluator.length; i++) {
                evaluator[i] = missAt(i, i);
            }
        }

        /** What is to be added at a wrong place (by Forney). */
        private int difference(int place, int wrong) {
            int inverse = field.power(255 - place);
            int square = field.times(inverse, inverse);
            int slope = 0;
            for (int i = (Math.min(wrong, MOST_TERMS - 1) - 1) / 2; i >= 0; i--) {
                slope = field.times(slope, square) ^ locator[2 * i + 1];
            }
            int top = field.times(field.power(place), field.value(evaluator, wrong, inverse));
            return field.over(top, slope);
        }
    }

    /** Modules, in rows of three longs; those beyond the side are always light. */
    private static final class Grid {
        private static final int MOST_SIDE = 177;
        private static final int WORDS = 3;

        private final long[] words = new long[WORDS * MOST_SIDE];
        private int side;

        int side() {
            return side;
        }

        void clear(int newSide) {
            Arrays.fill(words, 0L);
            side = Math.max(0, Math.min(newSide, MOST_SIDE));
        }

        void copy(Grid other) {
            System.arraycopy(other.words, 0, words, 0, words.length);
            side = other.side;
        }

        private boolean isInside(int x, int y) {
            return x >= 0 && x < side && y >= 0 && y < side;
        }

        boolean isDark(int x, int y) {
            return isInside(x, y) && (words[WORDS * y + (x >> 6)] >>> (x & 63) & 1L) == 1L;
        }

        void set(int x, int y, boolean dark) {
            if (isInside(x, y)) {
                int at = WORDS * y + (x >> 6);
                long module = 1L << (x & 63);
                words[at] = dark ? words[at] | module : words[at] & ~module;
            }
        }

        /** The 64 modules of a row from x on, the first one lowest; 0 for those that are none. */
        long from(int x, int y) {
            if (y < 0 || y >= side || x >= side || x <= -64) {
                return 0L;
            }
            if (x < 0) {
                return words[WORDS * y] << -x;
            }
            int word = x >> 6;
            int shift = x & 63;
            long near = words[WORDS * y + word] >>> shift;
            boolean isNear = shift == 0 || word + 1 >= WORDS;
            return isNear ? near : near | words[WORDS * y + word + 1] << 64 - shift;
        }

        int turnFrom(int x, int y, long bits) {
            if (y < 0 || y >= side || x >= side || x <= -64) {
                return 0;
            }
            if (x < 0) {
                return turn(0, y, bits >>> -x);
            }
            int word = x >> 6;
            int shift = x & 63;
            int near = turn(word, y, bits << shift);
            return shift == 0 ? near : near + turn(word + 1, y, bits >>> 64 - shift);
        }

        /** Turns modules of one long of a row; answers how many. */
        int turn(int word, int y, long bits) {
            if (word < 0 || word >= WORDS || y < 0 || y >= side) {
                return 0;
            }
            long turned = bits & lowBits(side - 64 * word);
            words[WORDS * y + word] ^= turned;
            return Long.bitCount(turned);
        }

        int darkOnes() {
            int count = 0;
            for (int i = 0; i < words.length; i++) {
                count += Long.bitCount(words[i]);
            }
            return count;
        }
    }

    /** The fixed modules of a version, the way of the codewords through the others, the masks. */
    private static final class Frame {
        /** Bit d: the ring at the distance d is dark. */
        private static final int FINDER_RINGS = 11;
        private static final int ALIGNMENT_RINGS = 5;
        private static final int FORM_BITS = 15;
        /** All masks come again after so many rows. */
        private static final int MASK_ROWS = 12;

        private final Grid fixed = new Grid();
        private final Grid dark = new Grid();
        private final long[] maskRows = new long[Grid.WORDS * MASK_ROWS];
        private int side;
        private int next;
        private int x;
        private int y;

        void lay(int version) {
            side = Version.side(version);
            fixed.clear(side);
            dark.clear(side);
            for (int i = 0; i < side; i++) {
                fix(i, 6, i % 2 == 0);
                fix(6, i, i % 2 == 0);
            }
            layRings(3, 3, 4, FINDER_RINGS);
            layRings(side - 4, 3, 4, FINDER_RINGS);
            layRings(3, side - 4, 4, FINDER_RINGS);
            if (version > 1) {
                layAlignments(version);
            }
            fix(8, side - 8, true);
            for (int i = 0; i < FORM_BITS; i++) {
                fix(formX(0, i, side), formY(0, i, side), false);
                fix(formX(1, i, side), formY(1, i, side), false);
            }
            if (version > 6) {
                layVersion(version);
            }
        }

        private void fix(int atX, int atY, boolean isDark) {
            fixed.set(atX, atY, true);
            dark.set(atX, atY, isDark);
        }

        private void layRings(int midX, int midY, int reach, int rings) {
            for (int dy = -reach; dy <= reach; dy++) {
                for (int dx = -reach; dx <= reach; dx++) {
                    int distance = Math.max(Math.abs(dx), Math.abs(dy));
                    fix(midX + dx, midY + dy, (rings >> distance & 1) == 1);
                }
            }
        }

        private void layAlignments(int version) {
            int n = version / 7 + 2;
            int last = n - 1;
            int step = version == 32 ? 26 : (4 * version + 2 * n + 1) / Math.max(1, 2 * last) * 2;
            for (int i = 0; i < n; i++) {
                for (int j = 0; j < n; j++) {
                    boolean isFinder = i == 0 && (j == 0 || j == last) || i == last && j == 0;
                    if (!isFinder) {
                        int midX = i == 0 ? 6 : side - 7 - (last - i) * step;
                        int midY = j == 0 ? 6 : side - 7 - (last - j) * step;
                        layRings(midX, midY, 2, ALIGNMENT_RINGS);
                    }
                }
            }
        }

        private void layVersion(int version) {
            int word = withRest(version, 12, 7973);
            for (int i = 0; i < 18; i++) {
                boolean isDark = (word >> i & 1) == 1;
                fix(side - 11 + i % 3, i / 3, isDark);
                fix(i / 3, side - 11 + i % 3, isDark);
            }
        }

        /** A number, shifted by the degree of a polynomial over two bits, and its rest by it. */
        private static int withRest(int number, int degree, int polynomial) {
            int rest = number << degree;
            for (int i = 17; i >= degree; i--) {
                if ((rest >> i & 1) == 1) {
                    rest ^= polynomial << i - degree;
                }
            }
            return number << degree | rest;
        }

        private static int formWord(int number) {
            return withRest(number, 10, 1335) ^ 21522;
        }

        private static int formX(int copy, int i, int side) {
            if (copy == 1) {
                return i <= 7 ? side - 1 - i : 8;
            }
            return i <= 7 ? 8 : i == 8 ? 7 : 14 - i;
        }

        private static int formY(int copy, int i, int side) {
            if (copy == 1) {
                return i <= 7 ? 8 : side - 15 + i;
            }
            return i <= 5 ? i : i == 6 ? 7 : 8;
        }

        static void drawForm(Grid symbol, int level, int mask) {
            int word = formWord(8 * (level ^ 1) + mask);
            int side = symbol.side();
            for (int i = 0; i < FORM_BITS; i++) {
                boolean isDark = (word >> i & 1) == 1;
                symbol.set(formX(0, i, side), formY(0, i, side), isDark);
                symbol.set(formX(1, i, side), formY(1, i, side), isDark);
            }
        }

        /** The FORM number of a symbol; NONE when there is none. */
        static int formNumber(Grid symbol) {
            int side = symbol.side();
            for (int copy = 0; copy < 2; copy++) {
                int word = 0;
                for (int i = 0; i < FORM_BITS; i++) {
                    if (symbol.isDark(formX(copy, i, side), formY(copy, i, side))) {
                        word |= 1 << i;
                    }
                }
                for (int number = 0; number < 32; number++) {
                    if (Integer.bitCount(formWord(number) ^ word) <= 3) {
                        return number;
                    }
                }
            }
            return NONE;
        }

        void placeCodewords(Codewords words, Grid symbol) {
            next = 0;
            for (int k = 0; k < words.total(); k++) {
                int b = words.get(words.placeInOrder(k));
                for (int bit = 7; bit >= 0 && step(); bit--) {
                    symbol.set(x, y, (b >> bit & 1) == 1);
                }
            }
        }

        void takeCodewords(Grid symbol, Codewords words) {
            next = 0;
            for (int k = 0; k < words.total(); k++) {
                int b = 0;
                for (int bit = 7; bit >= 0 && step(); bit--) {
                    b |= symbol.isDark(x, y) ? 1 << bit : 0;
                }
                words.set(words.placeInOrder(k), b);
            }
        }

        /** Goes to the next module that is not fixed; false when there is none. */
        private boolean step() {
            int pairPlaces = Math.max(1, 2 * side);
            int places = side * (side - 1);
            while (next < places) {
                int pair = next / pairPlaces;
                int place = next % pairPlaces;
                next++;
                int right = side - 1 - 2 * pair;
                x = (right > 6 ? right : right - 1) - place % 2;
                y = pair % 2 == 0 ? side - 1 - place / 2 : place / 2;
                if (!fixed.isDark(x, y)) {
                    return true;
                }
            }
            return false;
        }

        void chooseMask(int mask) {
            Arrays.fill(maskRows, 0L);
            for (int atY = 0; atY < MASK_ROWS; atY++) {
                for (int atX = 0; atX < side && atX < Grid.MOST_SIDE; atX++) {
                    if (isTurned(mask, atX, atY)) {
                        maskRows[Grid.WORDS * atY + (atX >> 6)] |= 1L << (atX & 63);
                    }
                }
            }
        }

        private static boolean isTurned(int mask, int x, int y) {
            switch (mask) {
                case 0: return (x + y) % 2 == 0;
                case 1: return y % 2 == 0;
                case 2: return x % 3 == 0;
                case 3: return (x + y) % 3 == 0;
                case 4: return (x / 3 + y / 2) % 2 == 0;
                case 5: return x * y % 2 + x * y % 3 == 0;
                case 6: return (x * y % 2 + x * y % 3) % 2 == 0;
                default: return ((x + y) % 2 + x * y % 3) % 2 == 0;
            }
        }

        /** Turns what the chosen mask turns; done twice, all is as before. */
        void turnMask(Grid symbol) {
            for (int atY = 0; atY < side; atY++) {
                for (int word = 0; word < Grid.WORDS; word++) {
                    long turned = maskRows[Grid.WORDS * (atY % MASK_ROWS) + word];
                    symbol.turn(word, atY, turned & ~fixed.from(64 * word, atY));
                }
            }
        }
    }

    /** The penalty of a symbol, counted for 64 places at once. */
    private static final class Penalty {
        /** 10111010000 and 00001011101, the first one the lowest bit. */
        private static final int LIKE_FINDER = 93;
        private static final int LIKE_FINDER_BACK = 1488;
        private static final int FINDER_LENGTH = 11;
        private static final int RUN_LENGTH = 5;

        /** For 64 places in a row each: the module there, the next one on, and so on. */
        private final long[] ahead = new long[FINDER_LENGTH];

        int of(Grid symbol) {
            int side = symbol.side();
            int sum = 0;
            for (int y = 0; y < side; y++) {
                for (int x = 0; x < side; x += 64) {
                    sum += lines(symbol, x, y, 1, 0);
                    sum += lines(symbol, x, y, 0, 1);
                    sum += squares(symbol, x, y);
                }
            }
            return sum + balance(symbol);
        }

        /** Of the runs and finders that begin at the 64 places, to the right or downwards. */
        private int lines(Grid symbol, int x, int y, int dx, int dy) {
            long all = -1L;
            long none = -1L;
            for (int i = 0; i < FINDER_LENGTH; i++) {
                ahead[i] = symbol.from(x + i * dx, y + i * dy);
                if (i < RUN_LENGTH) {
                    all &= ahead[i];
                    none &= ~ahead[i];
                }
            }
            int run = RUN_LENGTH - 1;
            long runs = (all | none) & withRoom(symbol, x, y, run * dx, run * dy);
            long edge = dy == 0 ? (x == 0 ? 1L : 0L) : (y == 0 ? -1L : 0L);
            long begun = runs & (edge | symbol.from(x - dx, y - dy) ^ ahead[0]);
            int finder = FINDER_LENGTH - 1;
            long room = withRoom(symbol, x, y, finder * dx, finder * dy);
            int finders = Long.bitCount(places(LIKE_FINDER) & room)
                    + Long.bitCount(places(LIKE_FINDER_BACK) & room);
            // A run of n has n - 4 places with five alike ahead, and counts n - 2.
            return Long.bitCount(runs) + 2 * Long.bitCount(begun) + 40 * finders;
        }

        /** Those of the 64 places from which so far to the right and down there is a module. */
        private static long withRoom(Grid symbol, int x, int y, int right, int down) {
            return y + down < symbol.side() ? lowBits(symbol.side() - x - right) : 0L;
        }

        private long places(int pattern) {
            long alike = -1L;
            for (int i = 0; i < FINDER_LENGTH; i++) {
                alike &= (pattern >> i & 1) == 1 ? ahead[i] : ~ahead[i];
            }
            return alike;
        }

        private static int squares(Grid symbol, int x, int y) {
            long a = symbol.from(x, y);
            long b = symbol.from(x + 1, y);
            long c = symbol.from(x, y + 1);
            long d = symbol.from(x + 1, y + 1);
            long alike = a & b & c & d | ~(a | b | c | d);
            return 3 * Long.bitCount(alike & withRoom(symbol, x, y, 1, 1));
        }

        private static int balance(Grid symbol) {
            int modules = Math.max(1, symbol.side() * symbol.side());
            return 10 * (Math.abs(20 * symbol.darkOnes() - 10 * modules) / modules);
        }
    }

    /** Reads the segments of the bytes of the blocks. */
    private static final class Parser {
        private final Codewords words;
        private Data target;
        private int version;
        private int next;
        private int size;
        private int segments;

        Parser(Codewords words) {
            this.words = words;
        }

        int segments() {
            return segments;
        }

        /** Answers the fault; what is read comes behind the target, unless that is null. */
        int parse(int ofVersion, Data into) {
            version = ofVersion;
            target = into;
            next = 0;
            size = 0;
            int all = 8 * words.holds();
            for (segments = 0; segments < all && next + 4 <= all; segments++) {
                int sign = take(4);
                if (sign == 0) {
                    return 0;
                }
                if (sign != 1 && sign != 2 && sign != 4) {
                    return NO_MODE;
                }
                int fault = parseSegment(sign >> 1);
                if (fault != 0) {
                    return fault;
                }
            }
            return 0;
        }

        /** The next bits as a number; NONE when there are not so many. */
        private int take(int width) {
            if (next + width > 8 * words.holds()) {
                return NONE;
            }
            int first = next >> 3;
            int three = words.get(first) << 16 | words.get(first + 1) << 8 | words.get(first + 2);
            int shift = 24 - (next & 7) - width;
            next += width;
            return three >> shift & (1 << width) - 1;
        }

        private int parseSegment(int mode) {
            int length = take(Version.countBits(mode, version));
            if (length == NONE) {
                return BITS_END;
            }
            if (length > MOST_BYTES - size) {
                return TOO_MANY;
            }
            size += length;
            int group = Math.max(1, Mode.groupSize(mode));
            for (int i = 0; i < length; i += group) {
                int fault = parseGroup(mode, Math.min(group, length - i));
                if (fault != 0) {
                    return fault;
                }
            }
            return 0;
        }

        private int parseGroup(int mode, int count) {
            int number = take(Mode.groupBits(mode, count));
            if (number == NONE) {
                return BITS_END;
            }
            int place = Mode.groupNumbers(mode, count);
            if (number >= place) {
                return NO_NUMBER;
            }
            int base = Math.max(1, Mode.base(mode));
            for (int i = 0; i < count && target != null; i++) {
                place = Math.max(1, place / base);
                target.add(Mode.byteOf(mode, number / place % base));
            }
            return 0;
        }
    }
}
