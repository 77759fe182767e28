import java.io.IOException;
import java.lang.reflect.InvocationTargetException;
import java.lang.reflect.Method;
import java.lang.reflect.Modifier;
import java.nio.file.DirectoryStream;
import java.nio.file.Files;
import java.nio.file.Path;
import java.util.regex.Matcher;
import java.util.regex.Pattern;

/** What README.md says: the answers of its example, every call of the face, every test. */
final class ReadmeTest {
    private static final Pattern CALL = Pattern.compile(
        "(?m)^buffer\\.(\\w+)\\((.*?)\\); +// (-?\\d+|throws \\w+)(?::.*)?$");
    private static final int CALLS_OF_THE_EXAMPLE = 25;

    private static final Due due = new Due();

    public static void main(String[] args) throws IOException, IllegalAccessException {
        String page = Files.readString(Path.of("README.md"));
        example(page);
        calls(page);
        tests(page);
        due.close();
    }

    private static void example(String page) throws IllegalAccessException {
        GapBuffer buffer = new GapBuffer();
        Matcher line = CALL.matcher(page);
        int count = 0;
        while (line.find()) {
            due.same(line.group(), answer(buffer, line.group(1), line.group(2)), line.group(3));
            count++;
        }
        due.same("calls of the example, each with an answer", count, CALLS_OF_THE_EXAMPLE);
        due.same("lines of the example", page.split("(?m)^buffer\\.").length - 1, count);
    }

    private static String answer(GapBuffer buffer, String name, String list)
            throws IllegalAccessException {
        String[] words = list.isEmpty() ? new String[0] : list.split(", ");
        Object[] arguments = new Object[words.length];
        for (int i = 0; i < words.length; i++) {
            arguments[i] = value(words[i]);
        }
        try {
            return String.valueOf(named(name).invoke(buffer, arguments));
        } catch (InvocationTargetException e) {
            return "throws " + e.getCause().getClass().getSimpleName();
        }
    }

    private static Object value(String word) {
        if (word.equals("true") || word.equals("false")) {
            return Boolean.valueOf(word);
        }
        return word.startsWith("'") ? Integer.valueOf(word.charAt(1)) : Integer.valueOf(word);
    }

    private static Method named(String name) {
        for (Method method : GapBuffer.class.getDeclaredMethods()) {
            if (Modifier.isPublic(method.getModifiers()) && method.getName().equals(name)) {
                return method;
            }
        }
        throw new IllegalStateException("the face has no " + name);
    }

    private static void calls(String page) {
        StringBuilder table = new StringBuilder();
        for (String line : page.split("\n")) {
            table.append(line.startsWith("| `") ? line : "");
        }
        for (Method method : GapBuffer.class.getDeclaredMethods()) {
            if (Modifier.isPublic(method.getModifiers())) {
                due.holds("in the table: " + method.getName(),
                    table.indexOf("`" + method.getName() + "`") >= 0);
            }
        }
    }

    private static void tests(String page) throws IOException {
        Path folder = Path.of("src/test/java");
        try (DirectoryStream<Path> files = Files.newDirectoryStream(folder, "*Test.java")) {
            for (Path file : files) {
                String name = file.getFileName().toString().replace(".java", "");
                due.holds("in the table: " + name, page.contains("| `" + name + "` |"));
            }
        }
    }
}
