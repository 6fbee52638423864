import java.util.ArrayList;
import java.util.List;
import java.util.Random;

/** What the document says of all methods and of the object, sentence by sentence. */
public final class RulesTest {
    private static final int NONE = SquareSymbols.NONE;
    private static final int LEAST = Integer.MIN_VALUE;
    private static final int MOST = Integer.MAX_VALUE;

    /** What an object has been through. */
    private interface Past {
        void live(SquareSymbols s);
    }

    /** A call that throws or answers NONE, whatever state it meets. */
    private interface Refused {
        long call(SquareSymbols s);
    }

    private static final String[] NAMES = {"new", "with data", "nearly full", "full", "made", "made, with other data", "made and spoiled", "blank",
        "blank behind made", "read", "read with codewords put right", "read with a fault", "read behind made and blank"};

    private static final Past[] PASTS = {
        s -> { },
        s -> Made.add(s, "ab12CD".repeat(10)),
        s -> s.repeat('f', 2995),
        s -> s.repeat('f', 3000),
        s -> { Made.add(s, "abcdefgh1234567890".repeat(3)); s.make(1, 0, NONE); },
        s -> { Made.add(s, "abcdefgh1234567890"); s.make(1, 4, 3); s.wipe(); s.repeat('f', 3000); },
        s -> { Made.add(s, "abc"); s.make(2, 0, 5); s.spoil(3, 9, 0x55L); },
        s -> s.blank(3),
        s -> { Made.add(s, "abc"); s.make(2, 0, 5); s.blank(2); },
        s -> { Made.add(s, "abc"); s.make(3, 2, 7); s.wipe(); s.read(); s.repeat('f', 2997); },
        s -> { Made.add(s, "abc"); s.make(3, 2, 7); s.spoil(9, 12, 7L); s.read(); },
        s -> { Made.add(s, "abc"); s.make(3, 2, 7); s.blank(1); s.read(); s.repeat('f', 2997); },
        s -> { Made.add(s, "abc"); s.make(3, 2, 7); s.read(); s.blank(1); },
    };

    public static void main(String[] args) {
        Due.all(
            RulesTest::firstNamed, RulesTest::throwsBeforeNone, RulesTest::changesNothing, RulesTest::butForRead,
            RulesTest::calls512);
    }

    static SquareSymbols lived(int past) {
        SquareSymbols s = new SquareSymbols();
        PASTS[past].live(s);
        return s;
    }

    static void firstNamed() {
        Due.sentence("Methods throw what their comments name, the one named first when several would do;");
        for (int past = 0; past < PASTS.length; past++) {
            SquareSymbols s = lived(past);
            Due.isRefused("repeat, both wrong", () -> s.repeat(-1, -1));
            Due.isRefused("repeat, both wrong", () -> s.repeat(256, LEAST));
            Due.isRefused("make, all wrong", () -> s.make(4, 41, 8));
            Due.isRefused("make, all wrong", () -> s.make(LEAST, LEAST, LEAST));
            Due.isRefused("make, two wrong", () -> s.make(0, -1, -2));
        }
    }

    static void throwsBeforeNone() {
        Due.sentence("they throw before they answer NONE;");
        SquareSymbols full = lived(3);
        Due.is("put at 3000", NONE, full.put(8, 0));
        Due.isRefused("put 9 at 3000", () -> full.put(9, 0));
        Due.isRefused("put 0 at 3000", () -> full.put(0, 0));
        Due.is("repeat at 3000", NONE, full.repeat(255, 1));
        Due.isRefused("repeat 256 at 3000", () -> full.repeat(256, 1));
        Due.isRefused("repeat -1 at 3000", () -> full.repeat(-1, MOST));
        Due.isRefused("repeat -1 times at 3000", () -> full.repeat(1, -1));
        Due.is("make of what doesn't fit", NONE, full.make(0, 0, 0));
        Due.isRefused("make of it at level 4", () -> full.make(4, 0, 0));
        Due.isRefused("make of it in version 41", () -> full.make(0, 41, 0));
        Due.isRefused("make of it with mask 8", () -> full.make(0, 0, 8));
        Due.isRefused("make of it with mask -2", () -> full.make(3, 1, -2));
        Due.is("told of nothing", NONE, full.told(5));
        Due.isRefused("told 6 of nothing", () -> full.told(6));
        Due.is("segment of nothing", NONE, full.segment(0, 1));
        Due.isRefused("segment's 2 of nothing", () -> full.segment(0, 2));
        Due.isRefused("segment's 2 of none such", () -> full.segment(-1, 2));
        Due.is("reading of nothing", NONE, full.reading(3));
        Due.isRefused("reading 4 of nothing", () -> full.reading(4));
        SquareSymbols made = lived(4);
        Due.is("no such segment", NONE, made.segment(6, 0));
        Due.isRefused("no such segment's -1", () -> made.segment(6, -1));
        SquareSymbols faulty = lived(11);
        Due.is("reading of a fault", NONE, faulty.reading(0));
        Due.isRefused("reading -1 of a fault", () -> faulty.reading(-1));
    }

    static List<Refused> refusedCalls() {
        List<Refused> out = new ArrayList<>();
        for (int n : new int[] {0, 9, -1, LEAST, MOST}) out.add(s -> s.put(n, -1L));
        for (int b : new int[] {-1, 256, LEAST, MOST}) out.add(s -> s.repeat(b, 1));
        for (int n : new int[] {-1, LEAST}) out.add(s -> s.repeat(0, n));
        for (int n : new int[] {3001, MOST}) out.add(s -> s.repeat('n', n));
        for (int i : new int[] {-1, 3000, LEAST, MOST}) out.add(s -> s.at(i));
        for (int l : new int[] {-1, 4, LEAST, MOST}) out.add(s -> s.make(l, 1, 0));
        for (int v : new int[] {-1, 41, LEAST, MOST}) out.add(s -> s.make(0, v, 0));
        for (int k : new int[] {-2, 8, LEAST, MOST}) out.add(s -> s.make(0, 1, k));
        for (int v : new int[] {0, 41, -1, LEAST, MOST}) out.add(s -> s.blank(v));
        for (int w : new int[] {-1, 6, LEAST, MOST}) out.add(s -> s.told(w));
        for (int w : new int[] {-1, 2, LEAST, MOST}) out.add(s -> s.segment(0, w));
        for (int i : new int[] {-1, 3000, LEAST, MOST}) out.add(s -> s.segment(i, 0));
        for (int w : new int[] {-1, 4, LEAST, MOST}) out.add(s -> s.reading(w));
        // These answer NONE only for data of a certain size.
        for (int n = 1; n <= 8; n++) {
            int count = n;
            out.add(s -> size(s) + count > 3000 ? s.put(count, -1L) : NONE);
        }
        for (int level = 0; level < 4; level++) {
            int l = level;
            for (int mask : new int[] {NONE, 0, 7}) {
                out.add(s -> size(s) > 2953 ? s.make(l, 0, mask) : NONE);
                out.add(s -> size(s) > 41 ? s.make(l, 1, mask) : NONE);
                out.add(s -> size(s) > 2953 ? s.make(l, 40, mask) : NONE);
            }
        }
        return out;
    }

    private static int size(SquareSymbols s) {
        int size = 0;
        while (s.at(size) != NONE) size++;
        return size;
    }

    private static boolean isRefused(Refused refused, SquareSymbols s) {
        try {
            return refused.call(s) == NONE;
        } catch (IllegalArgumentException e) {
            return true;
        }
    }

    static void changesNothing() {
        Due.sentence("a call that throws, or answers NONE, changes nothing");
        List<Refused> calls = refusedCalls();
        for (int past = 0; past < PASTS.length; past++) {
            SquareSymbols s = lived(past);
            List<Long> before = Made.state(s);
            for (int i = 0; i < calls.size(); i++) {
                Due.isSo(NAMES[past] + ", call " + i + " is refused", isRefused(calls.get(i), s));
                Due.isSo(NAMES[past] + ", call " + i + " changes nothing", before.equals(Made.state(s)));
            }
            // Nor does it change what a later call does.
            SquareSymbols other = lived(past);
            for (Refused call : calls) isRefused(call, s);
            Due.is(NAMES[past] + ", then read", other.read(), s.read());
            Due.isSo(NAMES[past] + ", then read", Made.state(other).equals(Made.state(s)));
            for (Refused call : calls) isRefused(call, s);
            Due.is(NAMES[past] + ", then spoil", other.spoil(-5, 9, -1L), s.spoil(-5, 9, -1L));
            Due.is(NAMES[past] + ", then make", other.make(0, 0, NONE), s.make(0, 0, NONE));
            Due.isSo(NAMES[past] + ", then make", Made.state(other).equals(Made.state(s)));
            for (Refused call : calls) isRefused(call, s);
            Due.is(NAMES[past] + ", then wipe", other.wipe(), s.wipe());
            Due.is(NAMES[past] + ", then put", other.put(8, -7L), s.put(8, -7L));
            Due.isSo(NAMES[past] + ", then put", Made.state(other).equals(Made.state(s)));
        }
    }

    /** A read() that answers NONE changes what fault() and reading() tell, and nothing else. */
    static void butForRead() {
        Due.sentence("changes nothing (but for read()).");
        for (int past = 0; past < PASTS.length; past++) {
            SquareSymbols s = lived(past);
            s.blank(7);
            List<Long> before = Made.state(s);
            Due.is(NAMES[past], NONE, s.read());
            Due.is(NAMES[past] + ", fault", 1, s.fault());
            List<Long> after = Made.state(s);
            int told = before.size() - 5;
            Due.isSo(NAMES[past] + ", all else", before.subList(0, told).equals(after.subList(0, told)));
            for (int i = 0; i < 4; i++) Due.is(NAMES[past] + ", reading " + i, NONE, s.reading(i));
        }
        SquareSymbols s = new SquareSymbols();
        List<Long> before = Made.state(s);
        Due.is("no symbol", NONE, s.read());
        Due.isSo("all as before", before.equals(Made.state(s)));
    }

    static void calls512() {
        Due.sentence("An object is used for at most 512 calls after it has been made;");
        for (int run = 0; run < 4; run++) {
            Random random = new Random(900 + run);
            SquareSymbols one = new SquareSymbols();
            PlainSymbols two = new PlainSymbols();
            for (int i = 0; i < 509; i++) {
                int b = random.nextInt(256);
                int x = random.nextInt(40) - 10;
                switch (i % 8) {
                    case 0: Due.is("repeat", two.repeat(b, 1), one.repeat(b, 1)); break;
                    case 1: Due.is("make", two.make(run, 0, b % 8), one.make(run, 0, b % 8)); break;
                    case 2: Due.is("spoil", two.spoil(x, b % 20, 1L), one.spoil(x, b % 20, 1L)); break;
                    case 3: Due.is("read", two.read(), one.read()); break;
                    case 4: Due.is("row", two.row(x, b % 20), one.row(x, b % 20)); break;
                    case 5: Due.is("fault", two.fault(), one.fault()); break;
                    case 6: Due.is("at", two.at(i / 8), one.at(i / 8)); break;
                    default: Due.is("reading", two.reading(i / 8 % 4), one.reading(i / 8 % 4)); break;
                }
            }
            Due.is("call 510", two.make(run, 0, 2), one.make(run, 0, 2));
            Due.is("call 511", two.read(), one.read());
            Due.is("call 512", two.row(1, 12), one.row(1, 12));
        }
        // The dearest ones, 512 times.
        SquareSymbols s = new SquareSymbols();
        Due.is("repeat", 2953, s.repeat('m', 2953));
        for (int i = 0; i < 255; i++) {
            Due.is("make", 40, s.make(0, 0, i % 64 == 0 ? NONE : i % 8));
            Due.is("read", 2953, s.read());
        }
        Due.is("call 512", 'm', s.at(2952));
    }
}
