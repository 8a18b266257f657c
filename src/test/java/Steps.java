import java.lang.reflect.Field;
import java.lang.reflect.Method;

/** The count of steps inside an object: few() answers true on every sound run, so tests look at it. */
final class Steps {
    private static final Field FIELD = field();

    private Steps() {
    }

    private static Field field() {
        try {
            Field field = SkewMelds.class.getDeclaredField("steps");
            field.setAccessible(true);
            return field;
        } catch (NoSuchFieldException e) {
            throw new IllegalStateException(e);
        }
    }

    static int of(SkewMelds x) {
        try {
            return FIELD.getInt(x);
        } catch (IllegalAccessException e) {
            throw new IllegalStateException(e);
        }
    }

    static void set(SkewMelds x, int steps) {
        try {
            FIELD.setInt(x, steps);
        } catch (IllegalAccessException e) {
            throw new IllegalStateException(e);
        }
    }

    /** How many steps the one way to read an element counts for itself. */
    static int ofOneRead(SkewMelds x, int at) {
        return ofOne(x, "read", new Class<?>[] {int.class}, at);
    }

    /** How many steps the one way to write an element counts for itself. */
    static int ofOneWrite(SkewMelds x, int at) {
        return ofOne(x, "write", new Class<?>[] {int.class, int.class}, at, 0);
    }

    private static int ofOne(SkewMelds x, String name, Class<?>[] types, Object... values) {
        try {
            Method method = SkewMelds.class.getDeclaredMethod(name, types);
            method.setAccessible(true);
            int before = of(x);
            method.invoke(x, values);
            return of(x) - before;
        } catch (ReflectiveOperationException e) {
            throw new IllegalStateException(e);
        }
    }
}
