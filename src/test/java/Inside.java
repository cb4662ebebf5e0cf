import java.lang.reflect.Field;
import java.util.List;

/** Sets what no 512 calls can reach. */
final class Inside {
    private Inside() {
    }

    /** False when the object does not hold its files in the way that is known here. */
    static boolean setMark(NotedVolume v, int file, int mark) {
        try {
            for (Object row : (List<?>) value(value(v, "files"), "rows")) {
                if ((int) value(row, "number") == file) {
                    field(row, "mark").setInt(row, mark);
                    return true;
                }
            }
            return false;
        } catch (ReflectiveOperationException | RuntimeException e) {
            return false;
        }
    }

    private static Object value(Object holder, String name) throws ReflectiveOperationException {
        return field(holder, name).get(holder);
    }

    private static Field field(Object holder, String name) throws ReflectiveOperationException {
        Field field = holder.getClass().getDeclaredField(name);
        field.setAccessible(true);
        return field;
    }
}
