import java.lang.management.ManagementFactory;
import java.lang.reflect.Array;
import java.lang.reflect.Field;
import java.lang.reflect.Modifier;
import java.util.ArrayDeque;
import java.util.Collections;
import java.util.Deque;
import java.util.IdentityHashMap;
import java.util.Set;

/** What a house holds, and what 512 of its calls make: both stay far inside the room that all calls of a run share. */
public final class RoomRuns {
    private static final int OBJECTS = 600_000;
    private static final int ELEMENTS = 7_300_000;
    /** The room in bytes, a fourth part off: 16 bytes for each object, 8 for each field or element. */
    private static final long BYTES = (16L * OBJECTS + 8L * ELEMENTS) / 4 * 3;

    private final Set<Object> objects = Collections.newSetFromMap(new IdentityHashMap<>());
    private final Deque<Object> open = new ArrayDeque<>();
    private int elements;

    public static void main(String[] args) throws IllegalAccessException {
        look("a new house", new ShiftHouse());
        ShiftHouse x = new ShiftHouse();
        work(x);
        look("behind 512 calls", x);
        long before = bytesMade();
        work(new ShiftHouse());
        long made = bytesMade() - before;
        System.out.println("a house and 512 calls make " + made + " bytes");
        Due.is("bytes made are in the room", made < BYTES, true);
        Due.end();
    }

    private static void look(String when, ShiftHouse x) throws IllegalAccessException {
        RoomRuns room = new RoomRuns();
        room.countFrom(x);
        System.out.println(when + ": " + room.objects.size() + " objects, " + room.elements + " fields and elements");
        Due.is(when + ": objects are in the room", room.objects.size() < OBJECTS, true);
        Due.is(when + ": fields and elements are in the room", room.elements < ELEMENTS, true);
    }

    /** All objects of this thread so far, those that are gone again too; 0 where the machine can't tell. */
    private static long bytesMade() {
        return ManagementFactory.getThreadMXBean() instanceof com.sun.management.ThreadMXBean bean
            && bean.isThreadAllocatedMemorySupported()
            ? bean.getThreadAllocatedBytes(Thread.currentThread().getId()) : 0;
    }

    private static void work(ShiftHouse x) {
        for (int i = 0; i < 64; i++) {
            x.plan(i % 2 == 0 ? Houses.ADD : Houses.DROP, i / 2 % 9, Houses.TEXT, -1, -1);
            x.begin();
            x.letters(i % 8, -1, -1);
            x.write(i, i % 3 == 0);
            x.read(i, i % 3 == 0);
            x.remove(i - 20);
            x.backfill();
            if (i % 4 == 3) {
                x.finish();
            } else {
                x.count(5);
            }
        }
    }

    private void countFrom(Object start) throws IllegalAccessException {
        add(start);
        while (!open.isEmpty()) {
            Object object = open.pop();
            if (object.getClass().isArray()) {
                addElements(object);
            } else if (object instanceof Iterable<?> list) {
                addParts(list);
            } else if (!object.getClass().getName().startsWith("java.")) {
                addFields(object);
            }
        }
    }

    private void add(Object object) {
        if (object != null && objects.add(object)) {
            open.push(object);
        }
    }

    private void addElements(Object array) {
        elements += Array.getLength(array);
        if (array instanceof Object[] parts) {
            for (Object part : parts) {
                add(part);
            }
        }
    }

    private void addParts(Iterable<?> list) {
        for (Object part : list) {
            elements++;
            add(part);
        }
    }

    private void addFields(Object object) throws IllegalAccessException {
        for (Field field : object.getClass().getDeclaredFields()) {
            if (!Modifier.isStatic(field.getModifiers())) {
                elements++;
                field.setAccessible(true);
                if (!field.getType().isPrimitive()) {
                    add(field.get(object));
                }
            }
        }
    }
}
