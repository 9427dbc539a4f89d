import java.lang.reflect.Array;
import java.lang.reflect.Field;
import java.lang.reflect.Modifier;
import java.util.ArrayDeque;
import java.util.IdentityHashMap;
import java.util.Map;

/** An object keeps all its room from its making on, and little enough that 512 of them fit the room of a run. */
public final class RoomTest {
    private static final int OBJECTS = 600_000 / 512;
    private static final int ELEMENTS = 7_300_000 / 512;

    private final Map<Object, Boolean> seen = new IdentityHashMap<>();
    private final ArrayDeque<Object> waiting = new ArrayDeque<>();
    private int elements;

    public static void main(String[] args) throws IllegalAccessException {
        RoomTest fresh = new RoomTest();
        fresh.walk(new TablePacker());
        System.out.println(fresh.seen.size() + " objects, " + fresh.elements + " fields and elements");
        Due.due("few objects", fresh.seen.size() <= OBJECTS);
        Due.due("few fields and elements", fresh.elements <= ELEMENTS);
        RoomTest used = new RoomTest();
        used.walk(usedObject());
        Due.due("as many objects when used", used.seen.size(), fresh.seen.size());
        Due.due("as many fields and elements when used", used.elements, fresh.elements);
        Due.end();
    }

    private static TablePacker usedObject() {
        TablePacker x = Due.hundredStates();
        Due.tokens(x, 1, 1, 1, 1, 1, 1);
        x.parse(0);
        x.parse(1);
        Due.rule(x, 0, 2, 2);
        x.count(2);
        x.clear();
        x.count(2);
        return x;
    }

    private void walk(Object from) throws IllegalAccessException {
        meet(from);
        while (!waiting.isEmpty()) {
            Object one = waiting.remove();
            if (one.getClass().isArray()) {
                elements += Array.getLength(one);
            } else {
                meetFields(one);
            }
        }
    }

    private void meetFields(Object one) throws IllegalAccessException {
        for (Class<?> c = one.getClass(); c != Object.class; c = c.getSuperclass()) {
            for (Field field : c.getDeclaredFields()) {
                if (!Modifier.isStatic(field.getModifiers())) {
                    elements++;
                    field.setAccessible(true);
                    if (!field.getType().isPrimitive()) {
                        meet(field.get(one));
                    }
                }
            }
        }
    }

    private void meet(Object one) {
        if (one != null && seen.put(one, true) == null) {
            waiting.add(one);
        }
    }
}
