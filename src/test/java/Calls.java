import java.lang.reflect.InvocationTargetException;
import java.lang.reflect.Method;
import java.lang.reflect.Modifier;
import java.util.Arrays;
import java.util.HashMap;
import java.util.Map;

/** One object that is called by names, as tables of calls need it; it knows how often it was called. */
final class Calls {
    /** What comes behind so many calls is free, so no test may lean on it. */
    static final int MOST = 512;

    private static final Map<String, Method> FACE = face();

    private final SorrowSpots x = new SorrowSpots();
    private int many = 0;

    private static Map<String, Method> face() {
        Map<String, Method> all = new HashMap<>();
        for (Method m : SorrowSpots.class.getDeclaredMethods()) {
            if (Modifier.isPublic(m.getModifiers())) {
                all.put(m.getName(), m);
            }
        }
        return all;
    }

    static String told(String name, int... a) {
        String numbers = Arrays.toString(a);
        return name + "(" + numbers.substring(1, numbers.length() - 1) + ")";
    }

    long answer(String name, int... a) {
        many++;
        Object[] given = new Object[a.length];
        for (int i = 0; i < a.length; i++) {
            given[i] = a[i];
        }
        try {
            return ((Number) FACE.get(name).invoke(x, given)).longValue();
        } catch (InvocationTargetException thrown) {
            throw new IllegalStateException(told(name, a) + " threw " + thrown.getCause(), thrown);
        } catch (IllegalAccessException hidden) {
            throw new IllegalStateException(told(name, a) + " is not public", hidden);
        }
    }

    /** The answer of text() to a text put behind what is on the tape. */
    long tell(String text) {
        feed(text);
        return answer("text");
    }

    void feed(String text) {
        for (int i = 0; i < text.length(); i++) {
            answer("feed", text.charAt(i));
        }
    }

    int many() {
        return many;
    }
}
