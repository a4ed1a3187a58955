import java.lang.management.ManagementFactory;
import java.lang.reflect.Array;
import java.lang.reflect.Field;
import java.lang.reflect.Modifier;
import java.util.IdentityHashMap;
import java.util.Map;

/** All calls of one run live in one room: an object leaves most of it free, and so do its calls. */
public final class RoomTest {
    private static final int OBJECTS = 600_000;
    private static final int ELEMENTS = 7_300_000;
    private static final Due DUE = new Due();
    private static final Map<Object, Boolean> SEEN = new IdentityHashMap<>();
    private static long elements;

    public static void main(String[] args) throws IllegalAccessException {
        PieceRow x = new PieceRow();
        count(x);
        System.out.println(SEEN.size() + " objects, " + elements + " fields and elements");
        DUE.holds("few objects", SEEN.size() < OBJECTS / 20);
        DUE.holds("few elements", elements < ELEMENTS / 20);
        calls(x);
        com.sun.management.ThreadMXBean threads =
            (com.sun.management.ThreadMXBean) ManagementFactory.getThreadMXBean();
        threads.getCurrentThreadAllocatedBytes();
        long before = threads.getCurrentThreadAllocatedBytes();
        calls(new PieceRow());
        long made = threads.getCurrentThreadAllocatedBytes() - before;
        System.out.println("bytes that an object and 512 calls made: " + made);
        // an element has a byte at least
        DUE.holds("512 dear calls fit into the room", made < ELEMENTS);
        DUE.end();
    }

    /** 512 calls, most of them as dear as can be. */
    private static void calls(PieceRow x) {
        for (int round = 0; round < 32; round++) {
            x.begin(round == 31);
            x.put(round, 8);
            x.fill(round % 3, round, 30000);
            x.fill(2, round, 35000);
            x.fill(1, round, 528);
            x.reference();
            x.close();
            x.read();
            x.byteAt(65536);
            x.start(1);
            x.word(3);
            x.patch(9, round);
            x.read();
            x.size(0);
            x.cut(3000);
            x.read();
        }
    }

    private static void count(Object o) throws IllegalAccessException {
        if (o == null || SEEN.put(o, true) != null) {
            return;
        }
        if (o.getClass().isArray()) {
            elements += Array.getLength(o);
            for (int i = 0; o instanceof Object[] && i < Array.getLength(o); i++) {
                count(Array.get(o, i));
            }
            return;
        }
        if (o.getClass().getName().startsWith("java.")) {
            return;
        }
        for (Field field : o.getClass().getDeclaredFields()) {
            if (!Modifier.isStatic(field.getModifiers())) {
                elements++;
                field.setAccessible(true);
                if (!field.getType().isPrimitive()) {
                    count(field.get(o));
                }
            }
        }
    }
}
