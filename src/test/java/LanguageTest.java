import java.lang.reflect.Constructor;
import java.lang.reflect.Field;
import java.lang.reflect.Method;
import java.lang.reflect.Modifier;
import java.nio.file.Files;
import java.nio.file.Path;
import java.util.Arrays;
import java.util.Set;
import java.util.TreeSet;
import java.util.regex.Pattern;

/** The document's face, whole and nothing beside it, and the rules of LANGUAGE.md that can be read off. */
public final class LanguageTest {
    private static final String FACE = "type2 wipe1 fault1 item2 why3 differ2 match2 verdicts2 played5 goes3 turned2 "
        + "found2 fits2 fitting0 parts2 parting3 fewest2 club2 change3 agree2 gives2 between4 halves4 member2 rule2 "
        + "law1 enact1 motion3 put2 best3 way3 draws2 mate3 cup2 sheet3 lose1 lay4 get3 copy5 write3 count1 digest0";
    private static final Path SOURCE = Path.of("src/main/java/ElevenCodes.java");

    public static void main(String[] args) throws Exception {
        face();
        constants();
        inside();
        words();
        Due.end();
    }

    private static void face() {
        Class<?> c = ElevenCodes.class;
        Due.holds("public and final", Modifier.isPublic(c.getModifiers()) && Modifier.isFinal(c.getModifiers()));
        Constructor<?>[] made = c.getDeclaredConstructors();
        Due.holds("one public constructor without parameters", made.length == 1
            && Modifier.isPublic(made[0].getModifiers()) && made[0].getParameterCount() == 0);
        Set<String> due = new TreeSet<>(Arrays.asList(FACE.split(" ")));
        Set<String> has = new TreeSet<>();
        for (Method m : c.getDeclaredMethods()) {
            if (Modifier.isPrivate(m.getModifiers())) {
                continue;
            }
            has.add(m.getName() + m.getParameterCount());
            Due.holds("public, not static: " + m, m.getModifiers() == Modifier.PUBLIC);
            Due.holds("answer of " + m, m.getReturnType() == (m.getName().equals("digest") ? long.class : int.class));
            for (int i = 0; i < m.getParameterCount(); i++) {
                boolean flag = m.getName().equals("member") && i == 1;
                Due.holds("parameters of " + m, m.getParameterTypes()[i] == (flag ? boolean.class : int.class));
            }
        }
        Due.holds("the face is " + has, has.equals(due));
        Due.is("promises 2 to 43", due.size(), 42);
    }

    private static void constants() throws IllegalAccessException {
        Due.is("NONE", ElevenCodes.NONE, -1);
        Due.is("BAD", ElevenCodes.BAD, -2);
        Due.is("NOT", ElevenCodes.NOT, -3);
        Due.is("FULL", ElevenCodes.FULL, -4);
        int visible = 0;
        for (Field f : ElevenCodes.class.getDeclaredFields()) {
            if (!Modifier.isPrivate(f.getModifiers())) {
                visible++;
                Due.holds("constant " + f, f.getModifiers() == (Modifier.PUBLIC | Modifier.STATIC | Modifier.FINAL));
            }
        }
        Due.is("visible fields", visible, 4);
    }

    private static void inside() {
        Set<String> publicNames = new TreeSet<>();
        for (String name : FACE.split(" ")) {
            publicNames.add(name.replaceAll("[0-9]", ""));
        }
        Class<?>[] classes = Arrays.copyOf(ElevenCodes.class.getDeclaredClasses(),
            ElevenCodes.class.getDeclaredClasses().length + 1);
        Due.holds("some twelve classes", classes.length <= 12);
        for (int i = 0; i < classes.length - 1; i++) {
            Due.holds("static " + classes[i], Modifier.isStatic(classes[i].getModifiers()));
            Due.holds("not public " + classes[i], !Modifier.isPublic(classes[i].getModifiers()));
        }
        classes[classes.length - 1] = ElevenCodes.class;
        for (Class<?> c : classes) {
            int fields = 0;
            for (Field f : c.getDeclaredFields()) {
                boolean isStatic = Modifier.isStatic(f.getModifiers());
                fields += isStatic ? 0 : 1;
                Due.holds("static is final " + f, !isStatic || Modifier.isFinal(f.getModifiers()));
            }
            Due.holds("some twenty fields in " + c, fields <= 20);
            for (Method m : c.getDeclaredMethods()) {
                Due.holds("parameters " + m, m.getParameterCount() <= 7);
                Due.holds("no second bearer of a public name: " + m,
                    Modifier.isPublic(m.getModifiers()) || !publicNames.contains(m.getName()));
            }
        }
    }

    private static void words() throws Exception {
        String text = Files.readString(SOURCE);
        for (int i = 0; i < text.length(); i++) {
            if (text.charAt(i) > 126) {
                Due.is("a sign of the source", text.charAt(i), 0);
            }
        }
        String code = text.replaceAll("(?s)/\\*.*?\\*/", "").replaceAll("//[^\n]*", "");
        String[] banned = {"throw", "throws", "try", "catch", "finally", "synchronized", "assert", "Object", "Random",
            "Thread", "hashCode", "toString", "volatile", "native", "package", "default ->", "null", "protected"};
        for (String word : banned) {
            Due.holds("no " + word, !Pattern.compile("\\b" + word + "\\b").matcher(code).find());
        }
        Due.holds("no lambda", !code.contains("->") && !code.contains("::"));
        Due.holds("no text joined", !code.contains("\""));
        for (String line : code.split("\n")) {
            Due.holds(line, !line.startsWith("import ") || line.equals("import java.util.Arrays;"));
            Due.holds("line length", line.length() <= 120);
        }
        methodsStayShort(text.split("\n"));
    }

    private static void methodsStayShort(String[] lines) {
        int from = -1;
        for (int i = 0; i < lines.length; i++) {
            if (lines[i].matches("( {4}| {8})\\S.*\\) \\{")) {
                from = i;
            } else if (from >= 0 && lines[i].matches("( {4}| {8})}")) {
                Due.holds("sixty lines: " + lines[from], i - from <= 60);
                from = -1;
            }
        }
    }
}
