import java.lang.management.ManagementFactory;
import java.lang.reflect.Array;
import java.lang.reflect.Field;
import java.lang.reflect.Modifier;
import java.util.IdentityHashMap;
import java.util.Map;

/** What an object is made of, and that the calls make nothing more. */
public final class RoomTest {
    private static long elements = 0;

    public static void main(String[] args) throws Exception {
        Check check = new Check("RoomTest");
        HookBoxes x = new HookBoxes();
        work(x);
        if (ManagementFactory.getThreadMXBean() instanceof com.sun.management.ThreadMXBean threads) {
            long id = Thread.currentThread().getId();
            threads.getThreadAllocatedBytes(id);
            long before = threads.getThreadAllocatedBytes(id);
            work(x);
            long bytes = threads.getThreadAllocatedBytes(id) - before;
            System.out.println("RoomTest: the dearest calls made " + bytes + " bytes");
            check.holds("calls make no objects", bytes < 4096);
        }
        Map<Object, Object> seen = new IdentityHashMap<>();
        visit(x, HookBoxes.class, seen);
        System.out.println("RoomTest: an object is made of " + seen.size() + " objects, " + elements + " fields and elements");
        check.holds("few objects", seen.size() < 200);
        check.holds("few fields and elements", elements < 14000);
        check.end();
    }

    private static void work(HookBoxes x) {
        int[] text = "([1]+[2]+[21])*([1]+[2]+[3])*([1]-q)*([321]+2)*([1]+[2]+2*q)".chars().toArray();
        for (int again = 0; again < 20; again++) {
            x.box(3 + again % 2, 7);
            for (int k = 0; k < text.length; k += 5) {
                x.feed(5, text[k], text[k + 1 < text.length ? k + 1 : k], text[k + 2 < text.length ? k + 2 : k],
                    text[k + 3 < text.length ? k + 3 : k], text[k + 4 < text.length ? k + 4 : k]);
            }
            x.read();
            x.multiply(1);
            x.chance(again, 20, 40, 3, 0);
            x.roots(again, 3, 5);
            x.sheet(1, 0, 8);
            x.rootsOf(1, 2);
            x.film(0, 7, 9);
            x.tells(0, 7, 9);
            x.around(again, 5, 1, 0);
            x.image();
            x.box(2, 5);
            x.back();
            x.sheet(0, -1, 0);
            x.read();
        }
    }

    private static void visit(Object o, Class<?> face, Map<Object, Object> seen) throws IllegalAccessException {
        if (o == null || seen.put(o, o) != null) {
            return;
        }
        Class<?> c = o.getClass();
        if (c.isArray()) {
            int n = Array.getLength(o);
            elements += n;
            for (int t = 0; t < n && !c.getComponentType().isPrimitive(); t++) {
                visit(Array.get(o, t), face, seen);
            }
            return;
        }
        for (Field f : c.getDeclaredFields()) {
            if (!Modifier.isStatic(f.getModifiers())) {
                elements++;
                f.setAccessible(true);
                if (!f.getType().isPrimitive()) {
                    visit(f.get(o), face, seen);
                }
            }
        }
    }
}
