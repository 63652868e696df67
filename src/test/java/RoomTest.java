import java.lang.management.ManagementFactory;
import java.lang.reflect.Array;
import java.lang.reflect.Field;
import java.lang.reflect.Modifier;
import java.util.ArrayDeque;
import java.util.Collections;
import java.util.Deque;
import java.util.IdentityHashMap;
import java.util.Set;

/** The room that a bench takes: what its constructor makes, and that no call makes anything more. */
public final class RoomTest {
    private static final int MOST_OBJECTS = 400;
    private static final int MOST_ELEMENTS = 10_000;

    private RoomTest() {
    }

    public static void main(String[] args) throws IllegalAccessException {
        judgeNew(new TensionNet());
        com.sun.management.ThreadMXBean beans =
                (com.sun.management.ThreadMXBean) ManagementFactory.getThreadMXBean();
        TensionNet bench = new TensionNet();
        round(bench, 1);
        long made = beans.getCurrentThreadAllocatedBytes();
        long between = beans.getCurrentThreadAllocatedBytes();
        for (int i = 0; i < 200; i++) {
            round(bench, i);
        }
        long after = beans.getCurrentThreadAllocatedBytes();
        Check.due("bytes made by calls", after - between - (between - made) < 1000, true);
        Check.end();
    }

    private static void judgeNew(TensionNet bench) throws IllegalAccessException {
        Set<Object> seen = Collections.newSetFromMap(new IdentityHashMap<>());
        Deque<Object> open = new ArrayDeque<>();
        seen.add(bench);
        open.add(bench);
        int elements = 0;
        while (!open.isEmpty()) {
            Object next = open.remove();
            if (next.getClass().isArray()) {
                elements += Array.getLength(next);
                for (int i = 0; i < Array.getLength(next) && !isPlain(next.getClass()); i++) {
                    visit(Array.get(next, i), seen, open);
                }
            } else {
                for (Field field : next.getClass().getDeclaredFields()) {
                    if (!Modifier.isStatic(field.getModifiers())) {
                        elements++;
                        field.setAccessible(true);
                        if (!field.getType().isPrimitive()) {
                            visit(field.get(next), seen, open);
                        }
                    }
                }
            }
        }
        System.out.println("a new bench has " + seen.size() + " objects with " + elements + " fields and elements");
        Check.due("few objects", seen.size() <= MOST_OBJECTS, true);
        Check.due("few elements", elements <= MOST_ELEMENTS, true);
    }

    private static boolean isPlain(Class<?> array) {
        return array.getComponentType().isPrimitive();
    }

    private static void visit(Object next, Set<Object> seen, Deque<Object> open) {
        if (next != null && seen.add(next)) {
            open.add(next);
        }
    }

    // Every call at least once, on a net with a stress and a way.
    private static void round(TensionNet x, int i) {
        x.row(0, 1, 20);
        x.write(0, 0, 3);
        x.write(0, 3, 1);
        x.write(0, 4, 20);
        x.write(0, 6, 1);
        x.write(0, 7, 1 + i % 19);
        x.write(0, 10, 3);
        x.write(0, 12, 2);
        x.write(0, 13, 1);
        x.write(0, 14, 2);
        x.write(0, 15, 1);
        x.write(0, 16, 1);
        x.write(0, 18, 2);
        x.write(0, 19, 2);
        x.net(0);
        x.load(2, 7, 0);
        x.pull(0, 1000);
        x.stress(0, 0);
        x.way(0, 2, 1);
        x.left(2, 0);
        x.bears(0);
        x.shape(2, 0);
        int sum = x.stresses() + x.ways() + x.borne() + x.tight() + x.stiff() + x.look(1) + x.part(true, 0)
                + x.told(0, 14) + x.count(0);
        boolean all = x.even() & x.shaped() & x.tear(0);
        Check.due("answers", sum > 0 && !all, true);
    }
}
