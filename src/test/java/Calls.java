import java.lang.reflect.InvocationTargetException;
import java.lang.reflect.Method;
import java.util.Arrays;

/** Calls of KiteMeet by their names, with their arguments as ints (booleans as 0 and 1). */
final class Calls {
    private Calls() {
    }

    static int answer(KiteMeet x, String name, int... a) throws Exception {
        Method call = named(name);
        Class<?>[] types = call.getParameterTypes();
        if (types.length != a.length) {
            throw new IllegalArgumentException(name + Arrays.toString(a));
        }
        Object[] given = new Object[a.length];
        for (int i = 0; i < a.length; i++) {
            given[i] = types[i] == boolean.class ? (Object) (a[i] == 1) : (Object) a[i];
        }
        try {
            return (Integer) call.invoke(x, given);
        } catch (InvocationTargetException e) {
            throw new AssertionError(name + Arrays.toString(a) + " threw", e.getCause());
        }
    }

    private static Method named(String name) {
        for (Method m : KiteMeet.class.getMethods()) {
            if (m.getDeclaringClass() == KiteMeet.class && m.getName().equals(name)) {
                return m;
            }
        }
        throw new IllegalArgumentException(name);
    }
}
