import java.io.IOException;
import java.lang.reflect.Constructor;
import java.lang.reflect.Field;
import java.lang.reflect.Method;
import java.lang.reflect.Modifier;
import java.nio.file.Files;
import java.nio.file.Path;
import java.util.ArrayList;
import java.util.List;
import java.util.Set;
import java.util.TreeSet;
import java.util.regex.Matcher;
import java.util.regex.Pattern;

/** The face that the document prints, and the rules of LANGUAGE.md that can be seen from afar. */
final class FaceTest {
    private static final Path SHARED = Path.of("../shared");
    private static final Path SOURCE = Path.of("src/main/java/GapBuffer.java");

    private static final Due due = new Due();

    public static void main(String[] args) throws IOException {
        face();
        members();
        words();
        classes();
        due.close();
    }

    /** The document's face, line by line, against what the class declares. */
    private static void face() throws IOException {
        String document = Files.readString(SHARED.resolve("DOC.md"));
        Matcher matcher = Pattern.compile("(?m)^    public (?:int|long) (\\w+)\\((.*?)\\)(.*);$")
            .matcher(document);
        Set<String> wanted = new TreeSet<>();
        while (matcher.find()) {
            String type = matcher.group(0).trim().split(" ")[1];
            String parameters = matcher.group(2).replaceAll(" \\w+(?=,|$)", "");
            wanted.add(type + " " + matcher.group(1) + "(" + parameters + ")" + matcher.group(3));
        }
        Set<String> declared = new TreeSet<>();
        for (Method method : GapBuffer.class.getDeclaredMethods()) {
            if (Modifier.isPublic(method.getModifiers())) {
                declared.add(written(method));
            }
        }
        due.same("the number of methods", wanted.size(), 42);
        due.same("the methods", declared.toString(), wanted.toString());
        due.same("NONE", GapBuffer.NONE, -1);
    }

    private static String written(Method method) {
        List<String> parameters = new ArrayList<>();
        for (Class<?> type : method.getParameterTypes()) {
            parameters.add(type.getSimpleName());
        }
        List<String> exceptions = new ArrayList<>();
        for (Class<?> type : method.getExceptionTypes()) {
            exceptions.add(type.getSimpleName());
        }
        String clause = exceptions.isEmpty() ? "" : " throws " + String.join(", ", exceptions);
        return method.getReturnType().getSimpleName() + " " + method.getName()
            + "(" + String.join(", ", parameters) + ")" + clause;
    }

    /** Rule 1: no other member is public, protected or package-visible. */
    private static void members() {
        int modifiers = GapBuffer.class.getModifiers();
        due.holds("public final", Modifier.isPublic(modifiers) && Modifier.isFinal(modifiers));
        Constructor<?>[] constructors = GapBuffer.class.getDeclaredConstructors();
        due.same("constructors", constructors.length, 1);
        due.holds("a public one", Modifier.isPublic(constructors[0].getModifiers()));
        for (Field field : GapBuffer.class.getDeclaredFields()) {
            boolean isPrivate = Modifier.isPrivate(field.getModifiers());
            due.holds("field " + field, isPrivate != field.getName().equals("NONE"));
        }
        for (Method method : GapBuffer.class.getDeclaredMethods()) {
            int bits = method.getModifiers();
            due.holds("method " + method, Modifier.isPublic(bits) || Modifier.isPrivate(bits));
        }
    }

    /** Rules 2, 3, 6, 10 and 12: words and signs that do not stand in the program. */
    private static void words() throws IOException {
        String code = Files.readString(SOURCE).replaceAll("(?s)/\\*.*?\\*/|//[^\n]*", " ");
        String[] words = {"package", "import", "try", "catch", "finally", "synchronized", "assert",
            "System\\.(?!arraycopy)", "Thread", "Random", "Object", "toString", "hashCode",
            "instanceof", "native", "volatile", "protected", "var", "Exact", "->", "::", "\\bnull"};
        for (String word : words) {
            String bounded = Character.isLetter(word.charAt(0)) && !word.contains(".")
                && !word.equals("Exact") ? "\\b" + word + "\\b" : word;
            due.holds("no " + word, !Pattern.compile(bounded).matcher(code).find());
        }
        Matcher fields = Pattern.compile("\\bstatic\\s+(?!final\\b)[\\w\\[\\]]+\\s+\\w+\\s*[=;]")
            .matcher(code);
        due.holds("static fields are final", !fields.find());
        due.holds("every sign is 1 to 127", code.chars().allMatch(c -> c >= 1 && c <= 127));
    }

    /** Rules 1 and 11: the classes inside, their number, fields and the names of their methods. */
    private static void classes() {
        Class<?>[] inside = GapBuffer.class.getDeclaredClasses();
        due.holds("at most twelve classes", inside.length < 12);
        Set<String> face = new TreeSet<>();
        for (Method method : GapBuffer.class.getDeclaredMethods()) {
            if (Modifier.isPublic(method.getModifiers())) {
                face.add(method.getName());
            }
        }
        otherNames(GapBuffer.class, face);
        for (Class<?> type : inside) {
            int bits = type.getModifiers();
            due.holds(type + " is private and static",
                Modifier.isPrivate(bits) && Modifier.isStatic(bits));
            due.holds(type + " has few fields", type.getDeclaredFields().length <= 20);
            otherNames(type, face);
        }
    }

    private static void otherNames(Class<?> type, Set<String> face) {
        for (Method method : type.getDeclaredMethods()) {
            due.holds(method + " has at most seven parameters", method.getParameterCount() <= 7);
            if (!Modifier.isPublic(method.getModifiers())) {
                due.holds(method + " is not named as one of the face",
                    !face.contains(method.getName()));
            }
        }
    }
}
