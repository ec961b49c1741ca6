import java.lang.management.ManagementFactory;
import java.lang.reflect.Array;
import java.lang.reflect.Field;
import java.lang.reflect.Modifier;
import java.util.ArrayDeque;
import java.util.Collections;
import java.util.Deque;
import java.util.IdentityHashMap;
import java.util.Set;

/** A run of 512 calls keeps far below 600,000 objects and 7.3 million elements, whatever it calls. */
public final class RoomTest {
    private static final int CALLS = 512;
    /** Once all calls are 81, so that an object that is warm has room for five times more below 512. */
    private static final int WARM = 40;
    private static final int ROUNDS = 5;
    /** A new object is the dearest call; 7.3 million elements in 512 calls leave some 14,000 for each. */
    private static final long MOST_BYTES_OF_A_NEW_OBJECT = 16_000;

    /** The room of a run, shared among 512 objects that each have both of their images. */
    private static final int MOST_OBJECTS = 600_000 / CALLS, MOST_ELEMENTS = 7_300_000 / CALLS;

    private RoomTest() {
    }

    private static long bytes() {
        com.sun.management.ThreadMXBean threads =
            (com.sun.management.ThreadMXBean) ManagementFactory.getThreadMXBean();
        return threads.getThreadAllocatedBytes(Thread.currentThread().getId());
    }

    public static void main(String[] args) throws IllegalAccessException {
        counted();
        StagedTables[] warm = new StagedTables[WARM];
        for (int i = 0; i < WARM; i++) {
            warm[i] = new StagedTables();
            callAll(warm[i]);
        }
        bytes();

        long before = bytes();
        StagedTables[] made = new StagedTables[CALLS];
        for (int i = 0; i < CALLS; i++) {
            made[i] = new StagedTables();
        }
        long each = (bytes() - before) / CALLS;
        Due.isTrue("a new object takes " + each + " bytes", each <= MOST_BYTES_OF_A_NEW_OBJECT);

        before = bytes();
        for (int i = 0; i < WARM * ROUNDS; i++) {
            callAll(warm[i % WARM]);
        }
        long more = bytes() - before;
        Due.isTrue("calls on objects that have their images take " + more + " bytes", more < 10_000);
        Due.end();
    }

    private static void counted() throws IllegalAccessException {
        StagedTables x = new StagedTables();
        callAll(x);
        Set<Object> seen = Collections.newSetFromMap(new IdentityHashMap<>());
        Deque<Object> open = new ArrayDeque<>();
        open.add(x);
        int elements = 0;
        while (!open.isEmpty()) {
            Object next = open.remove();
            if (seen.add(next)) {
                elements += next.getClass().isArray() ? addElements(next, open) : addFields(next, open);
            }
        }
        Due.isTrue("an object with its images is " + seen.size() + " objects and arrays", seen.size() <= MOST_OBJECTS);
        Due.isTrue("and has " + elements + " fields and elements", elements <= MOST_ELEMENTS);
        Due.isTrue("they were counted at all", seen.size() > 1 && elements > seen.size());
    }

    private static int addElements(Object array, Deque<Object> open) {
        if (!array.getClass().getComponentType().isPrimitive()) {
            for (int i = 0; i < Array.getLength(array); i++) {
                addIfThere(Array.get(array, i), open);
            }
        }
        return Array.getLength(array);
    }

    private static int addFields(Object object, Deque<Object> open) throws IllegalAccessException {
        int fields = 0;
        for (Field f : object.getClass().getDeclaredFields()) {
            if (!Modifier.isStatic(f.getModifiers())) {
                fields++;
                f.setAccessible(true);
                addIfThere(f.getType().isPrimitive() ? null : f.get(object), open);
            }
        }
        return fields;
    }

    private static void addIfThere(Object next, Deque<Object> open) {
        if (next != null) {
            open.add(next);
        }
    }

    private static void callAll(StagedTables x) {
        for (int t = 0; t < 8; t++) {
            x.table(t % 6);
            x.entry(t, t, 5, 1, t % 4);
            x.otherwise(t, 9, 0, 0);
            x.told(t, 2);
            x.told(t, 3);
            x.needs(t, 0);
        }
        x.rule(1, 4);
        x.stages();
        x.stage(0, 0);
        x.fewest();
        x.tell(0, 1);
        x.put(0, 1);
        x.register(0);
        x.run();
        x.out(0);
        x.took(0, 0);
        x.image(0);
        x.image(1);
        x.restore(0);
        x.count(8);
        x.count(9);
        x.forget(0, 0);
        while (x.count(0) > 0) {
            x.drop(0);
        }
    }
}
