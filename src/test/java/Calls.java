import java.lang.reflect.InvocationTargetException;
import java.lang.reflect.Method;
import java.lang.reflect.Modifier;
import java.util.Arrays;
import java.util.Map;
import java.util.TreeMap;

/** Calls told by their names and arguments. */
final class Calls {
    private static final Map<String, Method> METHODS = methods();

    private Calls() {
    }

    private static Map<String, Method> methods() {
        Map<String, Method> all = new TreeMap<>();
        for (Method method : FigurePlay.class.getDeclaredMethods()) {
            if (Modifier.isPublic(method.getModifiers())) {
                all.put(method.getName(), method);
            }
        }
        return all;
    }

    static String[] names() {
        return METHODS.keySet().toArray(new String[0]);
    }

    static int manyTaken(String name) {
        return METHODS.get(name).getParameterCount();
    }

    static boolean is(String name, int given) {
        return METHODS.containsKey(name) && manyTaken(name) == given;
    }

    static String told(String name, long... given) {
        return name + Arrays.toString(given).replace('[', '(').replace(']', ')');
    }

    static long answer(FigurePlay x, String name, long... given) {
        Method method = METHODS.get(name);
        Object[] boxed = new Object[given.length];
        for (int k = 0; k < given.length; k++) {
            if (method.getParameterTypes()[k] == int.class) {
                boxed[k] = Math.toIntExact(given[k]);
            } else {
                boxed[k] = given[k];
            }
        }
        try {
            return ((Number) method.invoke(x, boxed)).longValue();
        } catch (IllegalAccessException | InvocationTargetException e) {
            throw new IllegalStateException(told(name, given) + " threw", e);
        }
    }
}
