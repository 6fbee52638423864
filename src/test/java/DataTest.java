/** Promises 1 to 5: a new object, put, repeat, wipe, at. */
public final class DataTest {
    private static final int NONE = SquareSymbols.NONE;

    public static void main(String[] args) {
        newObject();
        put();
        repeat();
        wipe();
        at();
        Due.end();
    }

    static void newObject() {
        SquareSymbols s = new SquareSymbols();
        Due.is("NONE", -1, NONE);
        Due.is("new at", NONE, s.at(0));
        Due.is("new row", 0, s.row(0, 0));
        Due.is("new row below 0", 0, s.row(-3, 0));
        Due.is("new spoil", 0, s.spoil(0, 0, -1));
        for (int i = 0; i < 6; i++) Due.is("new told", NONE, s.told(i));
        for (int i = 0; i < 2; i++) Due.is("new segment", NONE, s.segment(0, i));
        for (int i = 0; i < 4; i++) Due.is("new reading", NONE, s.reading(i));
        Due.is("new fault", 0, s.fault());
        Due.is("new read", NONE, s.read());
        Due.is("new read's fault", 0, s.fault());
        for (int i = 0; i < 4; i++) Due.is("no symbol's reading", NONE, s.reading(i));
        Due.is("new wipe", 0, s.wipe());
        Due.is("another object's data", 2, new SquareSymbols().put(2, 0));
        Due.is("own data", NONE, s.at(0));
    }

    static void put() {
        SquareSymbols s = new SquareSymbols();
        Due.is("put 1", 1, s.put(1, 0x7ff1L));
        Due.is("put 8", 9, s.put(8, 0x8877665544332211L));
        Due.is("put 8 of ones", 17, s.put(8, -1L));
        int[] due = {0xf1, 0x11, 0x22, 0x33, 0x44, 0x55, 0x66, 0x77, 0x88};
        for (int i = 0; i < due.length; i++) Due.is("put's byte " + i, due[i], s.at(i));
        Due.is("put's last byte", 255, s.at(16));
        Due.is("behind put's last byte", NONE, s.at(17));
        int[] wrong = {0, 9, -1, Integer.MIN_VALUE, Integer.MAX_VALUE};
        for (int n : wrong) Due.isRefused("put " + n, () -> s.put(n, 1));
        Due.is("repeat up to 2999", 2999, s.repeat(7, 2982));
        Due.is("put 2 at 2999", NONE, s.put(2, 0));
        Due.is("put 8 at 2999", NONE, s.put(8, 0));
        Due.is("refused put's byte", NONE, s.at(2999));
        Due.is("put 1 at 2999", 3000, s.put(1, 5));
        Due.is("put 1 at 3000", NONE, s.put(1, 5));
        Due.isRefused("put 0 at 3000", () -> s.put(0, 1));
        Due.isRefused("put 9 at 3000", () -> s.put(9, 1));
        Due.is("all put", 3000, s.wipe());
    }

    static void repeat() {
        SquareSymbols s = new SquareSymbols();
        Due.is("repeat 0 times", 0, s.repeat(0, 0));
        Due.is("repeat 0", 2, s.repeat(0, 2));
        Due.is("repeat 255", 3, s.repeat(255, 1));
        Due.is("repeat's byte", 0, s.at(1));
        Due.is("repeat's byte", 255, s.at(2));
        Due.isRefused("repeat b below", () -> s.repeat(-1, 1));
        Due.isRefused("repeat b above", () -> s.repeat(256, 1));
        Due.isRefused("repeat b above, too many", () -> s.repeat(256, 5000));
        Due.isRefused("repeat n below", () -> s.repeat(1, -1));
        Due.isRefused("repeat least n", () -> s.repeat(1, Integer.MIN_VALUE));
        Due.is("repeat too often", NONE, s.repeat(1, 2998));
        Due.is("repeat most often", NONE, s.repeat(1, Integer.MAX_VALUE));
        Due.is("after refusals", 3, s.repeat(1, 0));
        Due.is("repeat up to all", 3000, s.repeat(9, 2997));
        Due.is("repeat 0 times at all", 3000, s.repeat(9, 0));
        Due.is("repeat at all", NONE, s.repeat(9, 1));
        Due.is("last byte", 9, s.at(2999));
    }

    static void wipe() {
        SquareSymbols s = new SquareSymbols();
        s.repeat(65, 30);
        s.make(0, 0, 0);
        long row = s.row(0, 12);
        Due.is("wipe", 30, s.wipe());
        Due.is("wiped at", NONE, s.at(0));
        Due.is("wipe again", 0, s.wipe());
        Due.is("wiped symbol stays", row, s.row(0, 12));
        Due.is("wiped told stays", 1, s.told(4));
        Due.is("put behind wipe", 1, s.put(1, 66));
        Due.is("at behind wipe", 66, s.at(0));
        Due.is("second at behind wipe", NONE, s.at(1));
    }

    static void at() {
        SquareSymbols s = new SquareSymbols();
        s.put(3, 0x80ff00L);
        Due.is("at 0", 0, s.at(0));
        Due.is("at 1", 255, s.at(1));
        Due.is("at 2", 128, s.at(2));
        int[] none = {3, -1, 2999, 3000, Integer.MAX_VALUE, Integer.MIN_VALUE};
        for (int i : none) Due.is("at " + i, NONE, s.at(i));
        s.repeat(1, 2997);
        Due.is("at 2999", 1, s.at(2999));
        Due.is("at 3000", NONE, s.at(3000));
    }
}
