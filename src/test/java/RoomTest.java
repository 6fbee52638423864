import java.lang.management.ManagementFactory;
import java.lang.reflect.Array;
import java.lang.reflect.Field;
import java.lang.reflect.Modifier;
import java.util.IdentityHashMap;
import java.util.Map;

/** All of a run lives in one room: 512 objects fit into it, and calls make nothing. */
public final class RoomTest {
    private static final int CALLS = 512;
    private static final long MOST_OBJECTS = 600_000;
    private static final long MOST_ELEMENTS = 7_300_000;

    public static void main(String[] args) throws Exception {
        objectsFit();
        callsMakeNothing();
        Due.end();
    }

    static void objectsFit() throws Exception {
        Map<Object, Long> seen = new IdentityHashMap<>();
        count(new SquareSymbols(), seen);
        long elements = 0;
        for (long n : seen.values()) elements += n;
        System.out.println("an object: " + seen.size() + " objects and arrays, " + elements + " fields and elements");
        Due.is("objects", 1, seen.size() * CALLS <= MOST_OBJECTS ? 1 : 0);
        Due.is("elements", 1, elements * CALLS <= MOST_ELEMENTS ? 1 : 0);
    }

    static void count(Object o, Map<Object, Long> seen) throws Exception {
        if (o == null || seen.containsKey(o)) return;
        if (o.getClass().isArray()) {
            seen.put(o, (long) Array.getLength(o));
            return;
        }
        seen.put(o, 0L);
        long fields = 0;
        for (Field f : o.getClass().getDeclaredFields()) {
            if (Modifier.isStatic(f.getModifiers())) continue;
            fields++;
            f.setAccessible(true);
            if (!f.getType().isPrimitive()) count(f.get(o), seen);
        }
        seen.put(o, fields);
    }

    static void callsMakeNothing() {
        SquareSymbols s = new SquareSymbols();
        s.repeat('a', 1000);
        dearCalls(s);
        com.sun.management.ThreadMXBean threads = (com.sun.management.ThreadMXBean) ManagementFactory.getThreadMXBean();
        long id = Thread.currentThread().getId();
        threads.getThreadAllocatedBytes(id);
        long before = threads.getThreadAllocatedBytes(id);
        for (int i = 0; i < 10; i++) dearCalls(s);
        long made = threads.getThreadAllocatedBytes(id) - before;
        // Far below one row a call; the machine's own measuring may make a little.
        Due.is("bytes made by 60 calls: " + made, 1, made < 4000 ? 1 : 0);
    }

    static void dearCalls(SquareSymbols s) {
        s.make(0, 0, SquareSymbols.NONE);
        s.make(3, 40, 1);
        s.spoil(40, 40, -1L);
        s.read();
        s.row(0, 0);
        s.told(3);
    }
}
