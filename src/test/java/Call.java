import java.lang.reflect.InvocationTargetException;
import java.lang.reflect.Method;

/** One call of ChunkStore, read from a text like "create(0)", that can be made on any object. */
record Call(String text, Method method, Object[] arguments) {
    static Call of(String text) {
        int open = text.indexOf('(');
        Method method = method(text.substring(0, open));
        String inside = text.substring(open + 1, text.length() - 1).strip();
        String[] texts = inside.isEmpty() ? new String[0] : inside.split(",");
        Class<?>[] types = method.getParameterTypes();
        if (texts.length != types.length) {
            throw new IllegalArgumentException("wrong number of arguments: " + text);
        }
        Object[] arguments = new Object[types.length];
        for (int i = 0; i < types.length; i++) {
            arguments[i] = value(types[i], texts[i].strip());
        }
        return new Call(text, method, arguments);
    }

    /** "= " and the answer, or "throws " and the exception. */
    String answer(ChunkStore store) {
        try {
            return "= " + method.invoke(store, arguments);
        } catch (InvocationTargetException e) {
            return "throws " + e.getCause().getClass().getSimpleName();
        } catch (IllegalAccessException e) {
            return "is not public";
        }
    }

    private static Object value(Class<?> type, String text) {
        if (type == boolean.class) {
            return Boolean.valueOf(text);
        }
        return type == double.class ? (Object) Double.valueOf(text) : (Object) Integer.valueOf(text);
    }

    private static Method method(String name) {
        for (Method method : Face.calls()) {
            if (method.getName().equals(name)) {
                return method;
            }
        }
        throw new IllegalArgumentException("no method " + name);
    }
}
