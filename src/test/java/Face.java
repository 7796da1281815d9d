import java.lang.reflect.InvocationTargetException;
import java.lang.reflect.Method;
import java.util.HashMap;
import java.util.Map;

/** Makes a call that is written as a text, on any object that has the face of KeyHall. */
final class Face {
    private static final Map<Class<?>, Map<String, Method>> METHODS = new HashMap<>();

    private Face() {
    }

    /** The answer of a call such as "put(0, 7)": a number, true, false, or throws.TheException. */
    static String answer(Object object, String call) {
        int open = call.indexOf('(');
        String inside = call.substring(open + 1, call.length() - 1);
        String[] words = inside.isEmpty() ? new String[0] : inside.split(", ");
        Method method = methodNamed(object.getClass(), call.substring(0, open));
        Class<?>[] types = method.getParameterTypes();
        Object[] arguments = new Object[words.length];
        for (int i = 0; i < words.length; i++) {
            arguments[i] = argument(types[i], words[i]);
        }
        try {
            return String.valueOf(method.invoke(object, arguments));
        } catch (InvocationTargetException e) {
            return "throws." + e.getCause().getClass().getSimpleName();
        } catch (IllegalAccessException e) {
            throw new AssertionError(call, e);
        }
    }

    private static Method methodNamed(Class<?> type, String name) {
        Method method = METHODS.computeIfAbsent(type, Face::methodsOf).get(name);
        if (method == null) {
            throw new AssertionError(type + " has no " + name);
        }
        return method;
    }

    private static Map<String, Method> methodsOf(Class<?> type) {
        Map<String, Method> methods = new HashMap<>();
        for (Method method : type.getDeclaredMethods()) {
            methods.put(method.getName(), method);
        }
        return methods;
    }

    private static Object argument(Class<?> type, String word) {
        if (type == boolean.class) {
            return Boolean.valueOf(word);
        }
        if (type == long.class) {
            return Long.valueOf(word);
        }
        return Integer.valueOf(word);
    }

    /** The calls of type() that bring a text to the tape. */
    static String[] typing(String text) {
        String[] calls = new String[(text.length() + 3) / 4];
        for (int i = 0; i < calls.length; i++) {
            String part = text.substring(4 * i, Math.min(4 * i + 4, text.length()));
            long characters = 0;
            for (int j = 0; j < part.length(); j++) {
                characters = characters << 16 | part.charAt(j);
            }
            calls[i] = "type(" + characters + ", " + part.length() + ")";
        }
        return calls;
    }
}
