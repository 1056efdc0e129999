import java.lang.reflect.InvocationTargetException;
import java.lang.reflect.Method;

/** Calls by name, so that one list of calls can be made on several objects and shown. */
final class Calls {
    private Calls() {
    }

    static long call(FinedAlike x, String method, long... a) {
        Method m = find(method);
        Class<?>[] types = m.getParameterTypes();
        if (types.length != a.length) throw new IllegalArgumentException(shown(method, a));
        Object[] given = new Object[a.length];
        for (int i = 0; i < a.length; i++) {
            if (types[i] == int.class) given[i] = (int) a[i];
            else given[i] = a[i];
        }
        try {
            return ((Number) m.invoke(x, given)).longValue();
        } catch (IllegalAccessException | InvocationTargetException e) {
            throw new IllegalStateException(shown(method, a), e);
        }
    }

    private static Method find(String method) {
        for (Method m : FinedAlike.class.getDeclaredMethods()) {
            if (m.getName().equals(method)) return m;
        }
        throw new IllegalArgumentException(method);
    }

    static String shown(String method, long... a) {
        StringBuilder b = new StringBuilder(method).append('(');
        for (int i = 0; i < a.length; i++) b.append(i == 0 ? "" : ", ").append(a[i]);
        return b.append(')').toString();
    }

    /** Up to 8 signs as the number that type() wants. */
    static long packed(String signs) {
        long v = 0;
        for (int i = 0; i < signs.length(); i++) v = (v << 8) | (signs.charAt(i) & 255);
        return v;
    }
}
