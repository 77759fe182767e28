import java.io.IOException;
import java.nio.file.Files;
import java.nio.file.Path;
import java.util.LinkedHashMap;
import java.util.Map;
import java.util.Set;

/**
 * The sentences of the document, read from it, and which of them have a test. So a sentence that
 * no test quotes is told, and a test whose sentence the document does not have (any more).
 */
final class Sentences {
    private static final Path DOCUMENT = Path.of("../shared/DOC.md");
    private static final Set<String> OTHER_HEADINGS =
        Set.of("", "GapBuffer", "What it is", "The public face", "Not promised");
    /** A title, and a sentence that the types of the face hold by themselves. */
    private static final Set<String> NOT_TESTED =
        Set.of("Text, array, gap", "All numbers are integers.");

    private final Due due;
    private final Map<String, Integer> tests = new LinkedHashMap<>();
    private String heading = "";

    Sentences(Due due) throws IOException {
        this.due = due;
        String below = "";
        boolean isProgram = false;
        for (String line : Files.readAllLines(DOCUMENT)) {
            if (line.startsWith("```")) {
                isProgram = !isProgram;
            } else if (line.startsWith("#")) {
                below = line.replaceFirst("^#+ ", "").replaceFirst("^(Promise \\d+):.*", "$1");
            } else if (!isProgram && !OTHER_HEADINGS.contains(below)) {
                add(below, line);
            }
        }
    }

    private void add(String below, String line) {
        String words = line.replaceFirst("^- ", "").replaceFirst("^`\\w+ ?\\w*\\([^`]*`: ", "");
        for (String sentence : words.trim().split("(?<=\\.)\\s+")) {
            boolean isOfTheFace = sentence.startsWith("Ahead of the calls");
            if (!sentence.isEmpty() && !isOfTheFace && !NOT_TESTED.contains(sentence)) {
                tests.putIfAbsent(key(below, sentence), 0);
            }
        }
    }

    private static String key(String heading, String sentence) {
        return heading + ": " + sentence;
    }

    /** The tests that follow are of sentences below this heading. */
    void under(String heading) {
        this.heading = heading;
    }

    void test(String sentence, Runnable test) {
        String key = key(heading, sentence);
        due.under("");
        due.holds("that the document says \"" + key + "\"", tests.containsKey(key));
        due.under(key + " | ");
        int before = due.answers();
        try {
            test.run();
        } catch (RuntimeException e) {
            due.holds("no call throws unasked, but " + e, false);
        }
        tests.merge(key, due.answers() - before, Integer::sum);
    }

    /** The number of sentences, each of which must have a test by now. */
    int close() {
        due.under("");
        for (Map.Entry<String, Integer> entry : tests.entrySet()) {
            due.holds("a test of \"" + entry.getKey() + "\"", entry.getValue() > 0);
        }
        return tests.size();
    }
}
