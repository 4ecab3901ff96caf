import java.lang.management.ManagementFactory;
import java.lang.reflect.Array;
import java.lang.reflect.Field;
import java.lang.reflect.Modifier;
import java.util.ArrayDeque;
import java.util.IdentityHashMap;
import java.util.Map;

/** What an object holds, and what 512 of the dearest calls make beside it, stay far below one room. */
public final class RoomTest {
    private static final long MOST_OBJECTS = 1000;
    private static final long MOST_ELEMENTS = 200000;
    private static final long MOST_BYTES_OF_CALLS = 4096;

    private RoomTest() {
    }

    private static void visit(Object o, Map<Object, Boolean> seen, ArrayDeque<Object> open) {
        if (o != null && seen.put(o, true) == null) {
            open.add(o);
        }
    }

    /** Objects and elements (or fields) that can be come to. */
    private static long[] held(Object root) throws ReflectiveOperationException {
        Map<Object, Boolean> seen = new IdentityHashMap<>();
        ArrayDeque<Object> open = new ArrayDeque<>();
        visit(root, seen, open);
        long elements = 0;
        while (!open.isEmpty()) {
            Object o = open.poll();
            if (o.getClass().isArray()) {
                elements += Array.getLength(o);
                for (int i = 0; i < Array.getLength(o) && !o.getClass().getComponentType().isPrimitive(); i++) {
                    visit(Array.get(o, i), seen, open);
                }
                continue;
            }
            for (Field f : o.getClass().getDeclaredFields()) {
                if (!Modifier.isStatic(f.getModifiers())) {
                    elements++;
                    f.setAccessible(true);
                    if (!f.getType().isPrimitive()) {
                        visit(f.get(o), seen, open);
                    }
                }
            }
        }
        return new long[] {seen.size(), elements};
    }

    private static long[] answers = new long[1];

    private static void dearCalls(CostBench b) {
        for (int i = 0; i < 24; i++) {
            answers[0] += b.words(2, 8) + b.worst(2, 8, 1) + b.apart(2, 3, -1) + b.paths(2, 30) + b.path(2, 0);
            answers[0] += b.merged(2, 3) + b.twins(0) + b.parting(0, 3) + b.make(0, 2, 4) + b.make(6, 2, 4);
            answers[0] += b.make(7, 2, 4) + b.make(4, 2, 5) + b.join(9, 0, 1, 5) + b.join(8, 0, 1, 5) + b.undo();
            answers[0] += b.feed(0x61626300, 0, 0, 0, 0) + b.word(2, 3) + b.feed(0x613a6200, 0, 0, 0, 0);
            answers[0] += b.couple(2, 3) + b.told(2, 8) + b.least(2);
        }
    }

    public static void main(String[] args) throws ReflectiveOperationException {
        CostBench b = new CostBench();
        long[] held = held(b);
        System.out.println("an object holds " + held[0] + " objects, " + held[1] + " fields and elements");
        Check.load(b, 0, "states 4;final 3 0;arc 0 1 a a 1;arc 0 2 a a 2;arc 1 1 b b 3;arc 2 2 b b 4;arc 1 3 c c 0;"
                + "arc 2 3 c c 1;arc 3 0 d d 0;");
        Check.load(b, 1, "states 3;final 2 0;arc 0 1 - - 1;arc 1 2 b b 2;arc 0 2 a a 7;arc 2 0 c c 0;");
        b.join(10, 0, 1, 2);
        b.join(9, 0, 1, 3);
        dearCalls(b);
        com.sun.management.ThreadMXBean bean = (com.sun.management.ThreadMXBean) ManagementFactory.getThreadMXBean();
        long thread = Thread.currentThread().getId();
        long before = bean.getThreadAllocatedBytes(thread);
        dearCalls(b);
        long made = bean.getThreadAllocatedBytes(thread) - before;
        System.out.println("504 calls made " + made + " bytes beside it");
        if (held[0] > MOST_OBJECTS || held[1] > MOST_ELEMENTS || made > MOST_BYTES_OF_CALLS) {
            System.out.println("that is too much");
            System.exit(1);
        }
    }
}
