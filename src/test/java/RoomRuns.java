import java.lang.reflect.Array;
import java.lang.reflect.Field;
import java.lang.reflect.Modifier;
import java.util.ArrayDeque;
import java.util.Collections;
import java.util.Deque;
import java.util.IdentityHashMap;
import java.util.Set;

/** What a house holds: few objects, and behind 512 calls no more than at first. */
public final class RoomRuns {
    private final Set<Object> objects = Collections.newSetFromMap(new IdentityHashMap<>());
    private final Deque<Object> open = new ArrayDeque<>();
    private int elements;

    public static void main(String[] args) throws IllegalAccessException {
        ShiftHouse x = new ShiftHouse();
        RoomRuns before = new RoomRuns();
        before.countFrom(x);
        System.out.println(before.objects.size() + " objects, " + before.elements + " fields and elements");
        Due.is("at most 300 objects", before.objects.size() <= 300, true);
        Due.is("at most 4000 fields and elements", before.elements <= 4000, true);
        work(x);
        RoomRuns after = new RoomRuns();
        after.countFrom(x);
        Due.is("objects behind 512 calls", after.objects.size(), before.objects.size());
        Due.is("fields and elements behind 512 calls", after.elements, before.elements);
        after.objects.removeAll(before.objects);
        Due.is("objects that were not there at first", after.objects.size(), 0);
        Due.end();
    }

    private static void work(ShiftHouse x) {
        for (int i = 0; i < 64; i++) {
            x.plan(i % 2 == 0 ? Houses.ADD : Houses.DROP, i / 2 % 9, Houses.TEXT, -1, -1);
            x.begin();
            x.letters(i % 8, -1, -1);
            x.write(i, i % 3 == 0);
            x.read(i, i % 3 == 0);
            x.remove(i - 20);
            x.backfill();
            if (i % 4 == 3) {
                x.finish();
            }
        }
    }

    private void countFrom(Object start) throws IllegalAccessException {
        add(start);
        while (!open.isEmpty()) {
            Object object = open.pop();
            if (object.getClass().isArray()) {
                addElements(object);
            } else {
                addFields(object);
            }
        }
    }

    private void add(Object object) {
        if (object != null && objects.add(object)) {
            open.push(object);
        }
    }

    private void addElements(Object array) {
        elements += Array.getLength(array);
        if (array instanceof Object[] parts) {
            for (Object part : parts) {
                add(part);
            }
        }
    }

    private void addFields(Object object) throws IllegalAccessException {
        for (Field field : object.getClass().getDeclaredFields()) {
            if (!Modifier.isStatic(field.getModifiers())) {
                elements++;
                field.setAccessible(true);
                if (!field.getType().isPrimitive()) {
                    add(field.get(object));
                }
            }
        }
    }
}
