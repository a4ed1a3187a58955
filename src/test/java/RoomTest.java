import java.lang.management.ManagementFactory;
import java.lang.reflect.Array;
import java.lang.reflect.Field;
import java.lang.reflect.Modifier;
import java.util.IdentityHashMap;
import java.util.Map;

/** All calls of one run live in one room: an object is not too large, and no call makes anything. */
public final class RoomTest {
    private static final Due DUE = new Due();
    private static final Map<Object, Boolean> SEEN = new IdentityHashMap<>();
    private static long elements;

    public static void main(String[] args) throws IllegalAccessException {
        PieceRow x = new PieceRow();
        count(x);
        System.out.println(SEEN.size() + " objects, " + elements + " fields and elements");
        DUE.is("few objects", SEEN.size() < 200 ? 1 : 0, 1);
        DUE.is("few elements", elements < 250_000 ? 1 : 0, 1);
        calls(x);
        com.sun.management.ThreadMXBean threads =
            (com.sun.management.ThreadMXBean) ManagementFactory.getThreadMXBean();
        threads.getCurrentThreadAllocatedBytes();
        long before = threads.getCurrentThreadAllocatedBytes();
        calls(x);
        long made = threads.getCurrentThreadAllocatedBytes() - before;
        System.out.println("bytes that all calls made: " + made);
        DUE.is("calls make nothing", made < 2000 ? 1 : 0, 1);
        DUE.end();
    }

    private static void calls(PieceRow x) {
        for (int round = 0; round < 10; round++) {
            x.begin(round == 9);
            x.put(round, 8);
            x.fill(round % 3, round, 30000);
            x.fill(2, round, 35000);
            x.fill(0, round, 1000);
            x.reference();
            x.close();
            x.read();
            x.byteAt(x.start(1) * 65536L);
            x.patch(9, round);
            x.word(3);
            x.read();
            x.cut(x.size(0) / 2);
            x.read();
        }
    }

    private static void count(Object o) throws IllegalAccessException {
        if (o == null || SEEN.put(o, true) != null) {
            return;
        }
        if (o.getClass().isArray()) {
            elements += Array.getLength(o);
            for (int i = 0; o instanceof Object[] && i < Array.getLength(o); i++) {
                count(Array.get(o, i));
            }
            return;
        }
        for (Field field : o.getClass().getDeclaredFields()) {
            if (!Modifier.isStatic(field.getModifiers())) {
                elements++;
                field.setAccessible(true);
                if (!field.getType().isPrimitive()) {
                    count(field.get(o));
                }
            }
        }
    }
}
