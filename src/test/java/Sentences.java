import java.io.IOException;
import java.nio.file.Files;
import java.nio.file.Path;
import java.util.LinkedHashSet;
import java.util.Set;

/** The sentences of the document that are being tested, each with the promise that it belongs to. */
final class Sentences {
    static final int PROMISES = 43;
    private static final Path DOCUMENT = Path.of("../shared/DOC.md");

    private static final Set<String> TOLD = new LinkedHashSet<>();
    private static final int[] ANSWERS_OF = new int[PROMISES + 1];
    private static final String TEXT = read();
    private static String sentenceNow = "no sentence";
    private static int promise = 0;
    private static int answersOfSentence = 0;

    private Sentences() {
    }

    /** From here on answers belong to this sentence, which stands under the promise or ahead of all promises. */
    static void says(int ofPromise, String sentence) {
        endSentence();
        promise = ofPromise;
        answersOfSentence = 0;
        sentenceNow = "promise " + ofPromise + " \"" + sentence + "\"";
        TOLD.add(sentenceNow);
        if (!TEXT.isEmpty()) {
            String plain = plain(sentence);
            Due.holds(now() + " stands in the document",
                section("# ElevenCodes", "## Promise 1:").contains(plain)
                || section("## Promise " + ofPromise + ":", ofPromise == PROMISES ? "## Not promised"
                    : "## Promise " + (ofPromise + 1) + ":").contains(plain));
        }
    }

    static void is(String what, long got, long due) {
        ANSWERS_OF[promise]++;
        answersOfSentence++;
        Due.is(now() + ": " + what, got, due);
    }

    static String now() {
        return sentenceNow;
    }

    /** Each promise has to have its answers, and each sentence, too. */
    static void end() {
        endSentence();
        for (int i = 1; i <= PROMISES; i++) {
            Due.holds("promise " + i + " has tests of its edges", ANSWERS_OF[i] > 0);
        }
        System.out.println(TOLD.size() + " sentences of " + PROMISES + " promises");
    }

    static void list() {
        TOLD.forEach(System.out::println);
    }

    private static void endSentence() {
        if (!TOLD.isEmpty()) {
            Due.holds(now() + " has answers", answersOfSentence > 0);
        }
    }

    private static String read() {
        try {
            return Files.exists(DOCUMENT) ? plain(Files.readString(DOCUMENT)) : "";
        } catch (IOException e) {
            return "";
        }
    }

    private static String plain(String text) {
        return text.replaceAll("\\s+", " ");
    }

    private static String section(String from, String to) {
        int start = TEXT.indexOf(from);
        int end = TEXT.indexOf(to, Math.max(0, start));
        return start < 0 || end < 0 ? "" : TEXT.substring(start, end);
    }
}
