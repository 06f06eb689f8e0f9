import com.sun.management.ThreadMXBean;
import java.lang.management.ManagementFactory;
import java.lang.reflect.Array;
import java.lang.reflect.Field;
import java.lang.reflect.Modifier;
import java.util.ArrayDeque;
import java.util.Collections;
import java.util.Deque;
import java.util.IdentityHashMap;
import java.util.Set;

/**
 * An object's rows are made together with it and used again: it is small, it keeps the very same parts
 * whatever is called, and a call that throws nothing makes no object at all.
 */
public final class RoomTest {
    private static final int MOST_OBJECTS = 100;
    private static final int MOST_ELEMENTS = 3000;

    public static void main(String[] args) throws ReflectiveOperationException {
        for (int kind = 0; kind < 4; kind++) {
            for (int order = 0; order < 3; order++) {
                keepsItsParts(kind, order);
                makesNothing(kind, order);
            }
        }
        Check.end();
    }

    private static void keepsItsParts(int kind, int order) throws ReflectiveOperationException {
        TreeFamily family = new TreeFamily();
        Set<Object> before = Collections.newSetFromMap(new IdentityHashMap<>());
        int elements = collect(family, before);
        Check.yes("room: " + before.size() + " objects", before.size() <= MOST_OBJECTS);
        Check.yes("room: " + elements + " fields and elements", elements <= MOST_ELEMENTS);
        everyCall(family, kind, order);
        refusedCalls(family);
        Set<Object> after = Collections.newSetFromMap(new IdentityHashMap<>());
        Check.same("room: fields and elements after the calls", elements, collect(family, after));
        Check.yes("room: the same objects after the calls", before.containsAll(after) && after.containsAll(before));
    }

    /** All that can be reached from an object: how many fields and elements it has. */
    private static int collect(Object from, Set<Object> found) throws ReflectiveOperationException {
        Deque<Object> open = new ArrayDeque<>();
        open.add(from);
        found.add(from);
        int elements = 0;
        while (!open.isEmpty()) {
            Object[] parts = parts(open.remove());
            elements += parts.length;
            for (Object part : parts) {
                boolean isNumber = part == null || part instanceof Number || part instanceof Boolean;
                if (!isNumber && found.add(part)) {
                    open.add(part);
                }
            }
        }
        return elements;
    }

    private static Object[] parts(Object whole) throws ReflectiveOperationException {
        if (whole.getClass().isArray()) {
            Object[] elements = new Object[Array.getLength(whole)];
            for (int i = 0; i < elements.length; i++) {
                elements[i] = Array.get(whole, i);
            }
            return elements;
        }
        Deque<Object> values = new ArrayDeque<>();
        for (Class<?> type = whole.getClass(); type != Object.class; type = type.getSuperclass()) {
            for (Field field : type.getDeclaredFields()) {
                if (!Modifier.isStatic(field.getModifiers())) {
                    field.setAccessible(true);
                    Object value = field.get(whole);
                    values.add(value == null ? 0 : value);
                }
            }
        }
        return values.toArray();
    }

    /** The least of some runs: the first ones may load classes, and that is not the program's doing. */
    private static void makesNothing(int kind, int order) {
        if (!(ManagementFactory.getThreadMXBean() instanceof ThreadMXBean meter)
                || !meter.isThreadAllocatedMemorySupported() || !meter.isThreadAllocatedMemoryEnabled()) {
            return;
        }
        long least = Long.MAX_VALUE;
        for (int run = 0; run < 10; run++) {
            TreeFamily family = new TreeFamily();
            long before = meter.getCurrentThreadAllocatedBytes();
            everyCall(family, kind, order);
            long made = meter.getCurrentThreadAllocatedBytes() - before;
            least = Math.min(least, made);
        }
        Check.same("room: bytes made by calls of kind " + kind + " and order " + order, 0, least);
    }

    /** Every method, with maps that are full and maps that are emptied, and nothing thrown. */
    private static void everyCall(TreeFamily family, int kind, int order) {
        for (int m = 0; m < 3; m++) {
            family.make(m, kind, order);
            for (int i = 0; i < 60; i++) {
                family.put(m, Scene.key(order, i), i);
            }
        }
        for (int i = 10; i < 20; i++) {
            int key = Scene.key(order, i);
            family.get(0, key);
            family.near(0, i % 4, key);
            family.rank(0, key);
            family.select(0, i);
            family.sum(0, key);
            family.range(0, i % 4, key, Scene.key(order, i + 30));
            family.within(0, i % 3);
            family.putWithin(0, Scene.key(order, i + 1), i);
            family.remove(0, Scene.between(order, i));
            family.remove(1, key);
            family.poll(2, i % 2 == 0);
            family.iterate(0, i % 2 == 0);
            family.next(0);
            family.drop(0);
        }
        family.join(0, 1, 0);
        family.join(0, 2, 1);
        family.join(1, 0, 2);
        family.join(1, 1, 2);
        family.split(0, Scene.key(order, 30), 1);
        family.changes(0);
        family.audit(0);
        family.size(0);
    }

    private static void refusedCalls(TreeFamily family) {
        Check.illegal("room: map", () -> family.size(3));
        Check.outOfBounds("room: place", () -> family.select(0, 60));
        Check.badState("room: iterator", () -> family.next(1));
        Check.illegal("room: key out of range", () -> {
            family.range(0, 3, 0, 0);
            family.putWithin(0, 0, 0);
        });
    }
}
