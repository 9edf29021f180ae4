import java.lang.reflect.Method;
import java.util.HashMap;
import java.util.Map;

/** A call by its name, so that RangePapers and the Oracle are asked in one way; a boolean is told as 1 or 0. */
record Call(String name, long... arguments) {
    private static final Map<String, Method> FOUND = new HashMap<>();

    long on(Object asked) {
        Method method = methodOf(asked.getClass());
        try {
            return ((Number) method.invoke(asked, boxed(method.getParameterTypes()))).longValue();
        } catch (ReflectiveOperationException e) {
            throw new IllegalStateException(toString(), e);
        }
    }

    private Method methodOf(Class<?> kind) {
        String key = kind.getName() + " " + name + " " + arguments.length;
        Method found = FOUND.get(key);
        for (Method method : found == null ? kind.getDeclaredMethods() : new Method[0]) {
            if (method.getName().equals(name) && method.getParameterCount() == arguments.length) {
                found = method;
            }
        }
        if (found == null) {
            throw new IllegalStateException("there is no " + key);
        }
        FOUND.put(key, found);
        return found;
    }

    private Object[] boxed(Class<?>[] types) {
        Object[] all = new Object[arguments.length];
        for (int i = 0; i < all.length; i++) {
            if (types[i] == boolean.class) {
                all[i] = arguments[i] == 1;
            } else if (types[i] == long.class) {
                all[i] = arguments[i];
            } else {
                all[i] = Math.toIntExact(arguments[i]);
            }
        }
        return all;
    }

    @Override
    public String toString() {
        StringBuilder line = new StringBuilder(name).append('(');
        for (int i = 0; i < arguments.length; i++) {
            line.append(i == 0 ? "" : ", ").append(arguments[i]);
        }
        return line.append(')').toString();
    }
}
