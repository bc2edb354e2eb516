import java.lang.reflect.InvocationTargetException;
import java.lang.reflect.Method;

/**
 * Runs calls, written one a line, on a new ChunkStore and prints every answer that is not due:
 * "create(0) = 1" for an answer, "create(8) throws IllegalArgumentException" for an exception.
 */
final class Script {
    private int wrong;

    void run(String title, String calls) {
        ChunkStore store = new ChunkStore();
        for (String line : calls.strip().split("\n")) {
            if (!line.isBlank()) {
                check(title, store, line.strip());
            }
        }
    }

    void finish() {
        System.out.println(wrong == 0 ? "all answers are as due" : wrong + " answers are not as due");
        if (wrong != 0) {
            System.exit(1);
        }
    }

    private void check(String title, ChunkStore store, String line) {
        int close = line.indexOf(')');
        String call = line.substring(0, close + 1);
        String due = line.substring(close + 1).strip();
        String got = answer(store, call);
        if (!got.equals(due)) {
            wrong++;
            System.out.println(title + ": " + call + " " + got + ", due is " + due);
        }
    }

    private static String answer(ChunkStore store, String call) {
        int open = call.indexOf('(');
        Method method = method(call.substring(0, open));
        String inside = call.substring(open + 1, call.length() - 1).strip();
        String[] texts = inside.isEmpty() ? new String[0] : inside.split(",");
        Class<?>[] types = method.getParameterTypes();
        if (texts.length != types.length) {
            throw new IllegalArgumentException("wrong number of arguments: " + call);
        }
        Object[] arguments = new Object[types.length];
        for (int i = 0; i < types.length; i++) {
            arguments[i] = value(types[i], texts[i].strip());
        }
        try {
            return "= " + method.invoke(store, arguments);
        } catch (InvocationTargetException e) {
            return "throws " + e.getCause().getClass().getSimpleName();
        } catch (IllegalAccessException e) {
            return "is not public";
        }
    }

    private static Object value(Class<?> type, String text) {
        if (type == boolean.class) {
            return Boolean.valueOf(text);
        }
        return type == double.class ? (Object) Double.valueOf(text) : (Object) Integer.valueOf(text);
    }

    private static Method method(String name) {
        for (Method method : ChunkStore.class.getDeclaredMethods()) {
            if (method.getName().equals(name)) {
                return method;
            }
        }
        throw new IllegalArgumentException("no method " + name);
    }
}
