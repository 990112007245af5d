import java.lang.reflect.InvocationTargetException;
import java.lang.reflect.Method;
import java.lang.reflect.Modifier;
import java.util.HashMap;
import java.util.Map;

/** Calls told by name and numbers, so that AnyTwoBells and the naive bells can be asked alike. */
final class Calls {
    /** What the document counts: an object answers as it says for so many calls. */
    static final int OF_AN_OBJECT = 512;

    private static final Map<Class<?>, Map<String, Method>> FOUND = new HashMap<>();

    static long ask(Object bells, String call, long... with) {
        Method method = FOUND.computeIfAbsent(bells.getClass(), Calls::methodsOf).get(call);
        Class<?>[] sorts = method.getParameterTypes();
        Object[] arguments = new Object[sorts.length];
        for (int k = 0; k < sorts.length; k++) {
            if (sorts[k] == long.class) {
                arguments[k] = with[k];
            } else {
                arguments[k] = (int) with[k];
            }
        }
        try {
            return ((Number) method.invoke(bells, arguments)).longValue();
        } catch (InvocationTargetException thrown) {
            throw new IllegalStateException(call + java.util.Arrays.toString(with) + " threw", thrown.getCause());
        } catch (IllegalAccessException closed) {
            throw new IllegalStateException(closed);
        }
    }

    /** How many numbers a call takes; -1: there is no such call. */
    static int numbersOf(String call) {
        Method method = FOUND.computeIfAbsent(AnyTwoBells.class, Calls::methodsOf).get(call);
        return method == null ? -1 : method.getParameterCount();
    }

    private static Map<String, Method> methodsOf(Class<?> of) {
        Map<String, Method> methods = new HashMap<>();
        for (Method method : of.getDeclaredMethods()) {
            boolean answers = method.getReturnType() == int.class || method.getReturnType() == long.class;
            if (answers && !Modifier.isPrivate(method.getModifiers())) {
                method.setAccessible(true);
                methods.put(method.getName(), method);
            }
        }
        return methods;
    }

    private Calls() {
    }
}
