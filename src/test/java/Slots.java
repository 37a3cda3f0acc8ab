import java.lang.reflect.Array;
import java.lang.reflect.Field;
import java.lang.reflect.Modifier;
import java.util.ArrayDeque;
import java.util.Collections;
import java.util.Deque;
import java.util.IdentityHashMap;
import java.util.Set;

/**
 * Sets a number that an object holds, wherever it does: for a bound that no 512 calls can reach.
 * The number is known by what a call answers of it, not by the name of a field.
 */
final class Slots {
    interface Reading {
        int of(TannedMen x);
    }

    private final TannedMen object;
    private final Reading reading;
    private final Set<Object> seen = Collections.newSetFromMap(new IdentityHashMap<>());
    private final Deque<Object> left = new ArrayDeque<>();

    private Slots(TannedMen object, Reading reading) {
        this.object = object;
        this.reading = reading;
    }

    /** Whether it was found, and is so now. */
    static boolean set(TannedMen x, Reading reading, int to) throws IllegalAccessException {
        return new Slots(x, reading).search(to);
    }

    private boolean search(int to) throws IllegalAccessException {
        left.add(object);
        while (!left.isEmpty()) {
            Object one = left.remove();
            if (seen.add(one) && (one.getClass().isArray() ? inArray(one, to) : inFields(one, to))) {
                return true;
            }
        }
        return false;
    }

    private boolean inArray(Object array, int to) {
        for (int i = 0; i < Array.getLength(array); i++) {
            Object element = Array.get(array, i);
            if (array instanceof int[] && (int) element == reading.of(object)) {
                Array.setInt(array, i, to);
                if (reading.of(object) == to) {
                    return true;
                }
                Array.set(array, i, element);
            } else if (!array.getClass().getComponentType().isPrimitive()) {
                follow(element);
            }
        }
        return false;
    }

    private boolean inFields(Object one, int to) throws IllegalAccessException {
        for (Field field : one.getClass().getDeclaredFields()) {
            if (Modifier.isStatic(field.getModifiers())) {
                continue;
            }
            field.setAccessible(true);
            Object value = field.get(one);
            if (!field.getType().isPrimitive()) {
                follow(value);
            } else if (field.getType() == int.class && (int) value == reading.of(object)) {
                field.setInt(one, to);
                if (reading.of(object) == to) {
                    return true;
                }
                field.set(one, value);
            }
        }
        return false;
    }

    private void follow(Object value) {
        if (value != null && (value.getClass().isArray() || value.getClass().getName().startsWith("TannedMen"))) {
            left.add(value);
        }
    }
}
