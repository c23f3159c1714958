import java.lang.reflect.InvocationTargetException;
import java.lang.reflect.Method;
import java.lang.reflect.Modifier;
import java.util.Arrays;
import java.util.HashMap;
import java.util.Map;

/**
 * An object whose calls are made by name, so that a row of a test is a call and its answer. It refuses to be used
 * for more calls than the document promises anything about.
 */
final class Subject {
    static final int MOST_CALLS = 512;
    private static final Map<String, Method> CALLS = calls();

    private final SpringBeads x = new SpringBeads();
    private int calls = 0;

    private static Map<String, Method> calls() {
        Map<String, Method> all = new HashMap<>();
        for (Method m : SpringBeads.class.getDeclaredMethods()) {
            if (Modifier.isPublic(m.getModifiers())) {
                all.put(m.getName(), m);
            }
        }
        return all;
    }

    static String spell(String call, int... numbers) {
        String inside = Arrays.toString(numbers);
        return call + "(" + inside.substring(1, inside.length() - 1) + ")";
    }

    long ask(String call, int... numbers) {
        calls++;
        if (calls > MOST_CALLS) {
            throw new IllegalStateException("a test uses an object for more than " + MOST_CALLS + " calls");
        }
        Object[] boxed = Arrays.stream(numbers).boxed().toArray();
        try {
            return ((Number) CALLS.get(call).invoke(x, boxed)).longValue();
        } catch (InvocationTargetException e) {
            throw new IllegalStateException(spell(call, numbers) + " threw " + e.getCause(), e);
        } catch (IllegalAccessException e) {
            throw new IllegalStateException(e);
        }
    }

    Subject with(String call, int... numbers) {
        ask(call, numbers);
        return this;
    }

    Subject often(int times, String call, int... numbers) {
        for (int i = 0; i < times; i++) {
            ask(call, numbers);
        }
        return this;
    }

    Subject fed(String text) {
        for (int i = 0; i < text.length(); i++) {
            ask("feed", text.charAt(i));
        }
        return this;
    }

    static Subject told(String text) {
        Subject s = new Subject().fed(text);
        if (s.ask("text") < 0) {
            throw new IllegalStateException("not a text: " + text);
        }
        return s;
    }

    /** A bead that is put to a place, with a speed that knocks by hand give it. */
    Subject put(int b, int place, int speed) {
        ask("alter", b, 4, place);
        int left = speed - ((int) ask("bead", b, 5) - 100);
        while (left != 0) {
            int by = Math.max(-9, Math.min(9, left));
            ask("hit", b, by + 9);
            left -= by;
        }
        return this;
    }

    /** What is seen is so: it is asked of the object itself. */
    Subject seenSo(int n, int b) {
        return with("see", n, b, (int) ask("ahead", b, n, 0));
    }
}
