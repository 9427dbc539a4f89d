import java.lang.reflect.Field;

/** The numbers that an object holds inside: for what no call can bring about. */
final class Inside {
    private Inside() {
    }

    /** The array itself, not a copy, of a part of the object. */
    static int[] numbers(TablePacker x, String part, String array) {
        try {
            return (int[]) valueOf(valueOf(x, part), array);
        } catch (ReflectiveOperationException renamed) {
            throw new IllegalStateException("what is inside has other names now", renamed);
        }
    }

    private static Object valueOf(Object holder, String name) throws ReflectiveOperationException {
        Field field = holder.getClass().getDeclaredField(name);
        field.setAccessible(true);
        return field.get(holder);
    }
}
