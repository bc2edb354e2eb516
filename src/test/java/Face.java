import java.lang.reflect.Method;
import java.lang.reflect.Modifier;
import java.util.ArrayList;
import java.util.List;

/** What can be called on a ChunkStore, as texts. */
final class Face {
    private Face() {}

    static List<Method> calls() {
        List<Method> calls = new ArrayList<>();
        for (Method method : ChunkStore.class.getDeclaredMethods()) {
            if (Modifier.isPublic(method.getModifiers())) {
                calls.add(method);
            }
        }
        return calls;
    }

    /** Like "int copy(int, int)". */
    static String signature(Method method) {
        String types = String.join(", ", names(method.getParameterTypes()));
        return method.getReturnType() + " " + method.getName() + "(" + types + ")";
    }

    static List<String> exceptions(Method method) {
        return names(method.getExceptionTypes());
    }

    private static List<String> names(Class<?>[] types) {
        List<String> names = new ArrayList<>();
        for (Class<?> type : types) {
            names.add(type.getSimpleName());
        }
        return names;
    }
}
