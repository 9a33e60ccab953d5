import com.sun.management.ThreadMXBean;
import java.lang.management.ManagementFactory;
import java.lang.reflect.Array;
import java.lang.reflect.Field;
import java.lang.reflect.Modifier;
import java.util.ArrayDeque;
import java.util.Collections;
import java.util.IdentityHashMap;
import java.util.Set;

/** All calls of a run share one room of some 600,000 objects and 7.3 million fields and elements. */
public final class RoomTest {
    // A hundredth of the room for a new object, and a tenth (as bytes of the smallest objects) for 512 calls.
    private static final int MOST_OBJECTS = 6_000;
    private static final int MOST_ELEMENTS = 73_000;
    private static final long MOST_BYTES_A_RUN = 600_000L * 16 / 10;

    private static void constructor() throws IllegalAccessException {
        Set<Object> seen = Collections.newSetFromMap(new IdentityHashMap<>());
        ArrayDeque<Object> open = new ArrayDeque<>();
        open.add(new FiberHeap());
        int elements = 0;
        while (!open.isEmpty()) {
            Object o = open.poll();
            if (!seen.add(o)) {
                continue;
            }
            if (o.getClass().isArray()) {
                elements += Array.getLength(o);
                for (int i = 0; i < Array.getLength(o) && !o.getClass().getComponentType().isPrimitive(); i++) {
                    open.add(Array.get(o, i));
                }
                continue;
            }
            for (Field f : o.getClass().getDeclaredFields()) {
                if (!Modifier.isStatic(f.getModifiers())) {
                    elements++;
                    f.setAccessible(true);
                    if (!f.getType().isPrimitive() && f.get(o) != null) {
                        open.add(f.get(o));
                    }
                }
            }
        }
        System.out.println("a new object: " + seen.size() + " objects, " + elements + " fields and elements");
        Due.yes("its objects fit the room", seen.size() <= MOST_OBJECTS);
        Due.yes("its fields and elements fit the room", elements <= MOST_ELEMENTS);
    }

    private static void useEveryCall(FiberHeap x) {
        for (int i = 0; i < 24; i++) {
            x.make(0, i % 4, 1 + i * 7 % 64, 1);
            x.set(0, i % 4, 0, (i + 1) % 4);
            x.get(0, (i + 2) % 4, i % 4, 0);
            x.store(0, i % 4, 1, i);
            x.load(0, i % 4, 1);
            x.copy(0, 1, 2);
            x.aim(0, i % 4);
            x.call(0);
            x.spawn(0, 4);
            x.take(1, 0, 1, 2);
            x.send(0, 0, i % 4);
            x.wake(0);
            x.wake(1);
            x.collect();
            x.mark(3);
            x.sweep(2);
            x.end(5);
        }
        for (int i = 0; i < 12; i++) {
            x.leave(0);
            x.count(i);
            x.fiber(0, i);
            x.page(i);
        }
    }

    private static void calls() {
        ThreadMXBean threads = (ThreadMXBean) ManagementFactory.getThreadMXBean();
        long id = Thread.currentThread().getId();
        FiberHeap[] objects = new FiberHeap[500];
        for (int i = 0; i < objects.length; i++) {
            objects[i] = new FiberHeap();
        }
        useEveryCall(objects[0]);
        threads.getThreadAllocatedBytes(id);
        long before = threads.getThreadAllocatedBytes(id);
        for (int i = 1; i < objects.length; i++) {
            useEveryCall(objects[i]);
        }
        long made = threads.getThreadAllocatedBytes(id) - before;
        long aRun = made / (objects.length - 1);
        System.out.println("a run of some 500 calls: " + aRun + " bytes");
        Due.yes("the calls of a run fit the room", aRun <= MOST_BYTES_A_RUN);
    }

    public static void main(String[] args) throws IllegalAccessException {
        constructor();
        calls();
        Due.close();
    }
}
