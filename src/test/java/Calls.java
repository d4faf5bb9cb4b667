import java.lang.reflect.InvocationTargetException;
import java.lang.reflect.Method;
import java.lang.reflect.Modifier;
import java.util.HashMap;
import java.util.Map;

/** Calls that are written as texts, such as "match(0, 3)" or "member(1, true)". */
final class Calls {
    private static final Map<String, Method> FACE = new HashMap<>();
    private static final Map<String, Object[]> READ = new HashMap<>();

    static {
        for (Method m : ElevenCodes.class.getDeclaredMethods()) {
            if (Modifier.isPublic(m.getModifiers())) {
                FACE.put(m.getName(), m);
            }
        }
    }

    private Calls() {
    }

    static String nameOf(String call) {
        return call.substring(0, call.indexOf('('));
    }

    static long answer(ElevenCodes x, String call) {
        try {
            return ((Number) FACE.get(nameOf(call)).invoke(x, READ.computeIfAbsent(call, Calls::given))).longValue();
        } catch (IllegalAccessException e) {
            throw new IllegalStateException(call, e);
        } catch (InvocationTargetException e) {
            throw new IllegalStateException(call + " threw behind " + Sentences.now(), e);
        }
    }

    private static Object[] given(String call) {
        String inside = call.substring(call.indexOf('(') + 1, call.length() - 1).trim();
        String[] words = inside.isEmpty() ? new String[0] : inside.split(", *");
        Object[] given = new Object[words.length];
        for (int i = 0; i < words.length; i++) {
            given[i] = number(words[i]);
        }
        return given;
    }

    /** The ends of all ints have names, as the document has no figures for them. */
    private static Object number(String word) {
        switch (word) {
            case "true":
                return true;
            case "false":
                return false;
            case "LEAST":
                return Integer.MIN_VALUE;
            case "MOST":
                return Integer.MAX_VALUE;
            default:
                return Integer.valueOf(word);
        }
    }
}
