import java.lang.reflect.Method;
import java.util.Arrays;
import java.util.Comparator;
import java.util.Random;

/** Calls with arguments from the edges of all ranges and far beyond: none may throw, and refusals change nothing. */
public final class HostileTest {
    private static final int[] EDGES = {Integer.MIN_VALUE, Integer.MIN_VALUE + 1, -65536, -12, -2, -1, 0, 1, 2, 3, 4, 5,
        6, 7, 8, 9, 10, 11, 12, 15, 16, 17, 31, 32, 39, 40, 41, 59, 60, 61, 63, 99, 100, 255, 256, 511, 4095, 4096,
        131071, 131072, Integer.MAX_VALUE - 1, Integer.MAX_VALUE};
    private static final int FAR_FROM = 131072;

    public static void main(String[] args) throws Exception {
        Method[] methods = Arrays.stream(ElevenCodes.class.getDeclaredMethods())
            .filter(m -> java.lang.reflect.Modifier.isPublic(m.getModifiers()))
            .sorted(Comparator.comparing(Method::getName)).toArray(Method[]::new);
        Due.is("methods", methods.length, 42);
        for (int seed = 0; seed < 200; seed++) {
            run(new Random(seed), methods);
        }
        farArguments(methods);
        Due.end();
    }

    private static void run(Random random, Method[] methods) throws Exception {
        ElevenCodes x = new ElevenCodes();
        for (int call = 0; call < 512; call++) {
            Method m = methods[random.nextInt(methods.length)];
            Object[] given = new Object[m.getParameterCount()];
            for (int i = 0; i < given.length; i++) {
                int value = random.nextInt(3) > 0 ? random.nextInt(5) : EDGES[random.nextInt(EDGES.length)];
                given[i] = m.getParameterTypes()[i] == boolean.class ? (Object) random.nextBoolean() : (Object) value;
            }
            Due.holds("an answer", m.invoke(x, given) != null);
        }
    }

    /** An argument that no range reaches is refused in each place, and the state stays as it was. */
    private static void farArguments(Method[] methods) throws Exception {
        ElevenCodes x = Due.with("n4");
        Due.sheet(x, 0, Due.BYTES, 1, 4);
        x.match(0, 2);
        x.club(0, 0);
        x.club(1, 0);
        long before = x.digest();
        for (Method m : methods) {
            for (int place = 0; place < m.getParameterCount(); place++) {
                for (int far : new int[] {Integer.MIN_VALUE, -FAR_FROM, FAR_FROM, Integer.MAX_VALUE}) {
                    Object[] given = new Object[m.getParameterCount()];
                    Arrays.fill(given, 0);
                    boolean free = m.getName().equals("lay") && place == 3
                        || m.getName().equals("parting") && place == 2 && far > 0
                        || m.getParameterTypes()[place] == boolean.class;
                    if (m.getName().equals("member")) {
                        given[1] = false;
                    }
                    if (!free) {
                        given[place] = far;
                        long answer = ((Number) m.invoke(x, given)).longValue();
                        Due.holds(m.getName() + " with " + far + " at " + place + " answers " + answer,
                            answer == -2 || answer <= -11);
                    }
                }
            }
        }
        Due.is("nothing changed", x.digest(), before);
    }
}
