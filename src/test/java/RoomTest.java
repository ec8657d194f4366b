import java.lang.management.ManagementFactory;
import java.lang.reflect.Array;
import java.lang.reflect.Field;
import java.lang.reflect.Modifier;
import java.util.ArrayDeque;
import java.util.Collections;
import java.util.Deque;
import java.util.IdentityHashMap;
import java.util.Set;

/** A new object takes little room, its calls take none. */
public final class RoomTest {
    private RoomTest() {
    }

    public static void main(String[] args) throws Exception {
        size();
        calls();
        Check.close("RoomTest");
    }

    private static void size() throws Exception {
        Set<Object> seen = Collections.newSetFromMap(new IdentityHashMap<>());
        Deque<Object> open = new ArrayDeque<>();
        open.add(new HiddenBarrel());
        long cells = 0;
        while (!open.isEmpty()) {
            Object o = open.remove();
            if (!seen.add(o)) {
                continue;
            }
            if (o.getClass().isArray()) {
                cells += Array.getLength(o);
                for (int i = 0; o instanceof Object[] && i < Array.getLength(o); i++) {
                    open.add(Array.get(o, i));
                }
                continue;
            }
            for (Field f : o.getClass().getDeclaredFields()) {
                if (!Modifier.isStatic(f.getModifiers())) {
                    cells++;
                    f.setAccessible(true);
                    if (!f.getType().isPrimitive() && f.get(o) != null) {
                        open.add(f.get(o));
                    }
                }
            }
        }
        Check.due("objects of a new one, " + seen.size(), seen.size() <= 300, true);
        Check.due("fields and elements of a new one, " + cells, cells <= 20000, true);
    }

    private static long work(HiddenBarrel x, int i) {
        long sum = x.best(0, 1) + x.two(0, 1) + x.barrels(0, true, 2) + x.more(0, 1 + i % 20, 0) + x.where(0, 0);
        sum += x.both(0, 0) + x.goes(0, 0, 1) + x.guard(0, 1) + x.open(0, 1 + i % 20, 2) + x.density(0, 1, 0) + x.round(0, 1);
        sum += x.look(0, 3) + x.left(0, 3) + x.gain(0, 3) + x.leave(0) + x.chase(0, 1 + i % 5, 0) + x.caught(0, 1 + i % 5);
        sum += x.bell(0, 50, 0) + x.postman(0, 0) + x.right(0, 3, 1) + x.box(0, 3) + x.likely(0, 1, 0) + x.next(0);
        sum += x.run(0, 9, i) + x.ran(1) + x.found(0, 0, 1) + x.mean(0, 0) + x.feed(i, i, i, i, i) + x.town(5);
        x.image(i % 3);
        x.again(i % 3);
        return sum;
    }

    private static void calls() {
        com.sun.management.ThreadMXBean threads = (com.sun.management.ThreadMXBean) ManagementFactory.getThreadMXBean();
        HiddenBarrel x = Check.with("places 5;lane 0 1 3;lane 1 2 4;lane 1 3 5;lane 3 4 2;chance 1 1;chance 2 2;chance 3 3;"
                + "chance 4 1;move 4;dog 2 3;prize 50;");
        x.walk(0);
        x.stop(0, 0, 1);
        x.diary(0, 2);
        long sum = work(x, 0);
        long id = Thread.currentThread().getId();
        long before = threads.getThreadAllocatedBytes(id);
        for (int i = 1; i < 12; i++) {
            sum += work(x, i);
        }
        long made = threads.getThreadAllocatedBytes(id) - before;
        Check.due("bytes made by calls, " + made + " (" + sum + ")", made < 4000, true);
    }
}
