import java.lang.management.ManagementFactory;
import java.lang.reflect.Array;
import java.lang.reflect.Field;
import java.lang.reflect.Modifier;
import java.util.IdentityHashMap;

/** How much room an object takes: all calls of a run share some 600,000 objects and 7.3 million fields and elements. */
public final class RoomTest {
    private static final int CALLS = 512;
    private static final IdentityHashMap<Object, Boolean> SEEN = new IdentityHashMap<>();
    private static long elements = 0;

    private RoomTest() {
    }

    public static void main(String[] args) throws IllegalAccessException {
        walk(new FlintHeap());
        System.out.println("an object: " + SEEN.size() + " objects and arrays, " + elements + " fields and elements");
        // Even a run that makes a new object by each call stays within the room.
        Check.due("objects of a whole run", SEEN.size() * CALLS < 600000, true);
        Check.due("elements of a whole run", elements * CALLS < 7300000, true);
        callsMakeNothing();
        Check.end("RoomTest");
    }

    private static void walk(Object object) throws IllegalAccessException {
        if (object == null || object instanceof String || SEEN.put(object, true) != null) {
            return;
        }
        if (object.getClass().isArray()) {
            elements += Array.getLength(object);
            return;
        }
        for (Field field : object.getClass().getDeclaredFields()) {
            if (Modifier.isStatic(field.getModifiers())) {
                continue;
            }
            elements++;
            field.setAccessible(true);
            if (!field.getType().isPrimitive()) {
                walk(field.get(object));
            }
        }
    }

    /** All rows are made with the object: so a call that throws nothing makes nothing. */
    private static void callsMakeNothing() {
        FlintHeap h = new FlintHeap();
        use(h);
        com.sun.management.ThreadMXBean bean = (com.sun.management.ThreadMXBean) ManagementFactory.getThreadMXBean();
        long id = Thread.currentThread().getId();
        bean.getThreadAllocatedBytes(id);
        FlintHeap other = new FlintHeap();
        long before = bean.getThreadAllocatedBytes(id);
        use(other);
        long made = bean.getThreadAllocatedBytes(id) - before;
        Check.due("bytes made by calls: " + made, made < 2000, true);
    }

    private static void use(FlintHeap h) {
        h.near(400);
        for (int i = 0; i < 40; i++) {
            h.piece(i % 3 - 1, i + 1, 20 * i, 999 - 20 * i, i % 5);
            for (int k = 0; k < 8; k++) {
                h.face(i, k == 0 ? 1 : k % 2 * 3, 0x0102030405060708L * (k + 1), k);
            }
        }
        h.feed(0x62617220_7768656eL, 0x20676170_203c2030L, 0x3b000000_00000000L);
        h.text();
        for (int i = 0; i < 30; i++) {
            h.join(8 * i + 1, 8 * i + 9);
            h.join(8 * i + 8, 8 * i + 2);
            h.cuts(8 * i + 2, 8 * i + 4, 1 + i % 9);
            h.foot(30 * i, 30 * i, i + 1);
        }
        for (int what = 0; what < 8; what++) {
            h.joined(0, what);
            h.look(3, what);
            h.cobble(2, what);
            h.count(what);
            h.blow(39, what);
            h.candidate(1, what);
        }
        h.seat(0, 2, 0);
        h.hands(0, 39);
        h.hour(3);
        h.asOf(3, 0);
        h.part(0);
        h.blind(true);
    }
}
