import java.lang.reflect.Method;
import java.util.Arrays;
import java.util.Map;
import java.util.Set;
import java.util.TreeMap;

/** Makes calls by their names, so that a test tells each call once and it is both made and printed. */
final class Face {
    private static final Set<String> NAME_FAULTS =
        Set.of("office", "open", "shelf", "sheet", "put", "cell", "copy", "as");
    private static final Map<String, Method> CALLS = new TreeMap<>();

    static {
        for (Method method : ThunderPost.class.getMethods()) {
            if (method.getDeclaringClass() == ThunderPost.class) {
                CALLS.put(method.getName(), method);
            }
        }
    }

    private Face() { }

    static long call(ThunderPost x, String name, int... args) {
        Object[] boxed = Arrays.stream(args).boxed().toArray();
        try {
            return ((Number) CALLS.get(name).invoke(x, boxed)).longValue();
        } catch (ReflectiveOperationException failed) {
            throw new IllegalStateException(text(name, args), failed);
        }
    }

    static String text(String name, int... args) {
        String list = Arrays.toString(args);
        return name + "(" + list.substring(1, list.length() - 1) + ")";
    }

    static boolean namesFaults(String name) {
        return NAME_FAULTS.contains(name);
    }

    static boolean answersLong(String name) {
        return CALLS.get(name).getReturnType() == long.class;
    }
}
