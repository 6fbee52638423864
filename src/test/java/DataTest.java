/** Promises 1 to 5, sentence by sentence: a new object, put, repeat, wipe, at. */
public final class DataTest {
    private static final int NONE = SquareSymbols.NONE;
    private static final int LEAST = Integer.MIN_VALUE;
    private static final int MOST = Integer.MAX_VALUE;

    public static void main(String[] args) {
        Due.all(
            DataTest::newObject, DataTest::upTo3000, DataTest::put, DataTest::putTooMany, DataTest::putRefused,
            DataTest::repeat, DataTest::repeatTooMany, DataTest::repeatRefused, DataTest::wipe, DataTest::at);
    }

    static SquareSymbols with(int size) {
        SquareSymbols s = new SquareSymbols();
        s.repeat('d', size);
        return s;
    }

    static void newObject() {
        Due.sentence("`SquareSymbols()`: No data, no symbol.");
        SquareSymbols s = new SquareSymbols();
        Due.is("NONE", -1, NONE);
        Due.is("at(0)", NONE, s.at(0));
        Due.is("row", 0, s.row(0, 0));
        Due.is("row from below 0", 0, s.row(-3, 0));
        Due.is("spoil", 0, s.spoil(0, 0, -1));
        for (int i = 0; i < 6; i++) Due.is("told " + i, NONE, s.told(i));
        for (int i = 0; i < 2; i++) Due.is("segment's " + i, NONE, s.segment(0, i));
        for (int i = 0; i < 4; i++) Due.is("reading " + i, NONE, s.reading(i));
        Due.is("fault", 0, s.fault());
        Due.is("read", NONE, s.read());
        Due.is("wipe", 0, s.wipe());
        Due.is("another object's put", 2, new SquareSymbols().put(2, 0));
        Due.is("at(0) then", NONE, s.at(0));
        Due.is("another object's blank", 21, new SquareSymbols().blank(1));
        Due.is("spoil then", 0, s.spoil(0, 0, -1));
    }

    static void upTo3000() {
        Due.sentence("DATA is a row of up to 3000 bytes.");
        SquareSymbols s = new SquareSymbols();
        for (int i = 0; i < 375; i++) s.put(8, 0x0102030405060708L * i);
        for (int i = 0; i < 375; i++) {
            for (int j = 0; j < 8; j++) Due.is("byte", 0x0102030405060708L * i >>> 8 * j & 255, s.at(8 * i + j));
        }
        Due.is("one more", NONE, s.put(1, 0));
        Due.is("all", 3000, s.wipe());
    }

    static void put() {
        Due.sentence("The n lowest bytes of a long, the lowest first, come behind the data.");
        int[] due = {0x11, 0x22, 0x33, 0x44, 0x55, 0x66, 0x77, 0x88};
        for (int n = 1; n <= 8; n++) {
            SquareSymbols s = with(2);
            Due.is("put " + n, 2 + n, s.put(n, 0x8877665544332211L));
            Due.is("byte before", 'd', s.at(1));
            for (int i = 0; i < n; i++) Due.is("put " + n + " byte " + i, due[i], s.at(2 + i));
            Due.is("byte behind", NONE, s.at(2 + n));
            Due.is("put again", 3 + n, s.put(1, -1L));
            Due.is("byte behind then", 255, s.at(2 + n));
        }
        SquareSymbols s = new SquareSymbols();
        s.put(8, -1L);
        s.put(8, Long.MIN_VALUE);
        for (int i = 0; i < 16; i++) Due.is("byte " + i, i < 8 ? 255 : i < 15 ? 0 : 128, s.at(i));
    }

    static void putTooMany() {
        Due.sentence("come behind the data. Answers how many it has then; NONE when there would be more than 3000. IllegalArgumentException: n is not");
        for (int n = 1; n <= 8; n++) {
            Due.is("the first " + n, n, new SquareSymbols().put(n, 5));
            SquareSymbols s = with(3000 - n);
            Due.is("put the last " + n, 3000, s.put(n, 5));
            for (int m = 1; m <= 8; m++) Due.is("put behind the last", NONE, s.put(m, 7));
            Due.is("last byte", n == 1 ? 5 : 0, s.at(2999));
            s = with(3001 - n);
            Due.is("put " + n + ", one too many", NONE, s.put(n, 5));
            Due.is("none of them came", NONE, s.at(3001 - n));
            Due.is("as many as before", 3001 - n, s.wipe());
        }
    }

    static void putRefused() {
        Due.sentence("IllegalArgumentException: n is not 1 .. 8.");
        for (int n : new int[] {0, 9, -1, -8, 10, LEAST, MOST}) {
            for (int size : new int[] {0, 17, 3000}) {
                SquareSymbols s = with(size);
                Due.isRefused("put " + n + " behind " + size, () -> s.put(n, 1));
                Due.is("as many as before", size, s.wipe());
            }
        }
        Due.is("1 is not refused", 1, new SquareSymbols().put(1, 0));
        Due.is("8 is not refused", 8, new SquareSymbols().put(8, 0));
    }

    static void repeat() {
        Due.sentence("A byte comes behind the data n times.");
        SquareSymbols s = new SquareSymbols();
        Due.is("0 times", 0, s.repeat(9, 0));
        Due.is("no byte came", NONE, s.at(0));
        Due.is("0 twice", 2, s.repeat(0, 2));
        Due.is("255 once", 3, s.repeat(255, 1));
        Due.is("0 times again", 3, s.repeat(9, 0));
        Due.is("128 three times", 6, s.repeat(128, 3));
        int[] due = {0, 0, 255, 128, 128, 128, NONE};
        for (int i = 0; i < due.length; i++) Due.is("byte " + i, due[i], s.at(i));
    }

    static void repeatTooMany() {
        Due.sentence("A byte comes behind the data n times. Answers how many it has then; NONE when there would be more than 3000.");
        Due.is("3000 at once", 3000, new SquareSymbols().repeat(1, 3000));
        Due.is("3001 at once", NONE, new SquareSymbols().repeat(1, 3001));
        for (int size : new int[] {0, 1, 8, 1500, 2999, 3000}) {
            SquareSymbols s = with(size);
            // The last ones would be below 3000 again, if the sum went round.
            int[] tooMany = {3001 - size, 3001, MOST - 3000, MOST - size, MOST - size + (size == 0 ? 0 : 1), MOST};
            for (int n : tooMany) Due.is(n + " behind " + size, NONE, s.repeat(7, n));
            Due.is("none of them came", NONE, s.at(size));
            Due.is("none behind " + size, size, s.repeat(7, 0));
            Due.is("just as many", 3000, s.repeat(7, 3000 - size));
            Due.is("last byte", size == 3000 ? 'd' : 7, s.at(2999));
            Due.is("none behind 3000", 3000, s.repeat(7, 0));
            Due.is("one behind 3000", NONE, s.repeat(7, 1));
        }
    }

    static void repeatRefused() {
        Due.sentence("IllegalArgumentException: b is not 0 .. 255, or n is below 0.");
        for (int size : new int[] {0, 17, 3000}) {
            SquareSymbols s = with(size);
            for (int b : new int[] {-1, 256, -256, 511, LEAST, MOST}) {
                for (int n : new int[] {0, 1, 3001, -1}) Due.isRefused("repeat " + b + ", " + n, () -> s.repeat(b, n));
            }
            for (int n : new int[] {-1, -3000, LEAST}) {
                for (int b : new int[] {0, 255}) Due.isRefused("repeat " + b + ", " + n, () -> s.repeat(b, n));
            }
            Due.is("0 is not refused", size, s.repeat(0, 0));
            Due.is("255 is not refused", size, s.repeat(255, 0));
            Due.is("as many as before", size, s.wipe());
        }
    }

    static void wipe() {
        Due.sentence("`int wipe()`: There is no data then. Answers how many bytes there were.");
        for (int size : new int[] {0, 1, 2999, 3000}) {
            SquareSymbols s = with(size);
            Due.is("wipe", size, s.wipe());
            Due.is("first byte", NONE, s.at(0));
            Due.is("last byte", NONE, s.at(2999));
            Due.is("wipe again", 0, s.wipe());
            Due.is("put behind it", 1, s.put(1, 66));
            Due.is("first byte", 66, s.at(0));
            Due.is("second byte", NONE, s.at(1));
            Due.is("room for all", 3000, s.repeat(1, 2999));
        }
        SquareSymbols s = with(30);
        s.make(0, 0, 0);
        long row = s.row(0, 12);
        s.wipe();
        Due.is("the symbol stays", row, s.row(0, 12));
        Due.is("what was made is told", 1, s.told(4));
        Due.is("what was made is read", 30, s.read());
    }

    static void at() {
        Due.sentence("`int at(int i)`: Byte i of the data; NONE when there is none.");
        SquareSymbols s = new SquareSymbols();
        for (int i : new int[] {0, -1, 1, LEAST, MOST}) Due.is("of no data, at " + i, NONE, s.at(i));
        s.put(3, 0x80ff00L);
        Due.is("at 0", 0, s.at(0));
        Due.is("at 1", 255, s.at(1));
        Due.is("at 2", 128, s.at(2));
        for (int i : new int[] {3, -1, -2, -3, 2999, 3000, LEAST, MOST}) Due.is("at " + i, NONE, s.at(i));
        s.repeat(1, 2997);
        Due.is("at 2999", 1, s.at(2999));
        for (int i : new int[] {3000, 3001, -1, LEAST, MOST}) Due.is("of full data, at " + i, NONE, s.at(i));
    }
}
