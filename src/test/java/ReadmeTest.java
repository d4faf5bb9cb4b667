import java.io.IOException;
import java.io.UncheckedIOException;
import java.lang.reflect.Method;
import java.net.URL;
import java.net.URLClassLoader;
import java.nio.charset.StandardCharsets;
import java.nio.file.Files;
import java.nio.file.Path;
import java.util.ArrayList;
import java.util.Comparator;
import java.util.List;
import java.util.Set;
import java.util.TreeSet;
import java.util.regex.Matcher;
import java.util.regex.Pattern;
import java.util.stream.Collectors;
import java.util.stream.Stream;

/**
 * What README.md shows: its Java blocks compile, each call in them has the answer that stands behind it,
 * and no call of the face is left out. An answer is what stands between the slashes and the first colon.
 */
public final class ReadmeTest {
    private static final Path README = Path.of("README.md");
    private static final Path TESTS = Path.of("src/test/java");
    private static final String BLOCK = "```java";
    private static final String BLOCK_END = "```";
    private static final Pattern ANY_CALL = Pattern.compile("(\\bx|ElevenCodes\\(\\))\\s*\\.\\s*(\\w+)\\s*\\(");
    private static final Pattern CALL =
        Pattern.compile("\\s*((?:x|new ElevenCodes\\(\\))\\.\\w+\\(.*\\));\\s*// ([^:]+)(: .+)?");
    private static final Pattern REFUSAL = Pattern.compile("\\| (-\\d+) \\| ([A-Z]+)(?:, finding (\\d))? \\| .*");
    private static final Pattern TEST = Pattern.compile("\\| (\\w+Test) \\| .*");

    public static void main(String[] args) throws Exception {
        List<String> lines = Files.readAllLines(README);
        Path made = Files.createTempDirectory("readme");
        try {
            run(made, source(lines));
        } finally {
            remove(made);
        }
        showsTheFace(lines);
        refusals(lines);
        tests(lines);
        Due.end();
    }

    /** The blocks as one class, each call of them set beside its answer. */
    private static String source(List<String> lines) {
        StringBuilder source = new StringBuilder();
        source.append("public final class ReadmeBlocks {\n")
            .append("    public static void run(java.util.List<Object[]> told) {\n");
        boolean inside = false;
        int blocks = 0;
        for (int i = 0; i < lines.size(); i++) {
            String line = lines.get(i);
            if (!inside && line.equals(BLOCK)) {
                inside = true;
                blocks++;
                source.append("{\n");
            } else if (inside && line.equals(BLOCK_END)) {
                inside = false;
                source.append("}\n");
            } else if (inside) {
                source.append(beside(line, i + 1)).append('\n');
            }
        }
        Due.holds("README.md has Java blocks, each with an end", blocks > 0 && !inside);
        return source.append("    }\n}\n").toString();
    }

    private static String beside(String line, int number) {
        if (!ANY_CALL.matcher(line.replaceAll("//.*", "")).find()) {
            return line;
        }
        String place = "README.md, line " + number + ": " + line.trim();
        Matcher call = CALL.matcher(line);
        boolean answered = call.matches() && callsIn(line) == 1;
        Due.holds(place + " is one call with its answer", answered);
        if (!answered) {
            return line;
        }
        return "told.add(new Object[] {\"" + place.replace("\\", "\\\\").replace("\"", "\\\"") + "\", (long) "
            + call.group(1) + ", (long) (" + call.group(2) + ")});";
    }

    private static int callsIn(String line) {
        return (int) ANY_CALL.matcher(line.replaceAll("//.*", "")).results().count();
    }

    private static void run(Path made, String source) throws Exception {
        Path file = made.resolve("ReadmeBlocks.java");
        Files.writeString(file, source);
        // The same javac that .ci/run calls, as a Java without a compiler inside may stand beside it.
        Process javac = new ProcessBuilder("javac", "-cp", System.getProperty("java.class.path"), "-d", made.toString(),
            file.toString()).redirectErrorStream(true).start();
        String said = new String(javac.getInputStream().readAllBytes(), StandardCharsets.UTF_8);
        int failed = javac.waitFor();
        Due.is("compiling README.md: " + said, failed, 0);
        if (failed != 0) {
            return;
        }
        List<Object[]> told = new ArrayList<>();
        try (URLClassLoader loader = new URLClassLoader(new URL[] {made.toUri().toURL()},
                ReadmeTest.class.getClassLoader())) {
            loader.loadClass("ReadmeBlocks").getMethod("run", List.class).invoke(null, told);
        }
        for (Object[] one : told) {
            Due.is((String) one[0], (long) one[1], (long) one[2]);
        }
    }

    private static void remove(Path made) throws IOException {
        try (Stream<Path> all = Files.walk(made)) {
            all.sorted(Comparator.reverseOrder()).forEach(path -> {
                try {
                    Files.delete(path);
                } catch (IOException e) {
                    throw new UncheckedIOException(e);
                }
            });
        }
    }

    private static void showsTheFace(List<String> lines) {
        Set<String> shown = new TreeSet<>();
        for (String line : lines) {
            Matcher call = CALL.matcher(line);
            if (call.matches()) {
                String text = call.group(1).replace("new ElevenCodes()", "x");
                shown.add(text.substring(text.indexOf('.') + 1, text.indexOf('(')));
            }
        }
        Set<String> face = new TreeSet<>();
        for (Method m : ElevenCodes.class.getMethods()) {
            if (m.getDeclaringClass() == ElevenCodes.class) {
                face.add(m.getName());
            }
        }
        Due.holds("README.md shows each call of the face: " + shown + " of " + face, shown.equals(face));
    }

    private static void refusals(List<String> lines) {
        String due = "-2 BAD, -3 NOT, -4 FULL, -11 NULL 1, -12 INDEX 2, -13 CAST 3, -14 STORE 4, -15 SIZE 5";
        String got = lines.stream().map(REFUSAL::matcher).filter(Matcher::matches)
            .map(m -> m.group(1) + " " + m.group(2) + (m.group(3) == null ? "" : " " + m.group(3)))
            .collect(Collectors.joining(", "));
        Due.holds("README.md's refusals: " + got, got.equals(due));
    }

    private static void tests(List<String> lines) throws IOException {
        Set<String> told = lines.stream().map(TEST::matcher).filter(Matcher::matches).map(m -> m.group(1))
            .collect(Collectors.toCollection(TreeSet::new));
        Set<String> there = new TreeSet<>();
        try (Stream<Path> files = Files.list(TESTS)) {
            files.map(path -> path.getFileName().toString()).filter(name -> name.endsWith("Test.java"))
                .forEach(name -> there.add(name.substring(0, name.length() - ".java".length())));
        }
        Due.holds("README.md's tests " + told + " are those that there are, " + there, told.equals(there));
    }
}
