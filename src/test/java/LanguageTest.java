import java.io.IOException;
import java.lang.reflect.Field;
import java.lang.reflect.Method;
import java.lang.reflect.Modifier;
import java.nio.file.Files;
import java.nio.file.Path;
import java.util.ArrayList;
import java.util.List;
import java.util.regex.Matcher;
import java.util.regex.Pattern;
import java.util.stream.Stream;

/** What can be seen of LANGUAGE.md in the text and the members of the program; not all of it can. */
final class LanguageTest {
    private static final int MOST_CLASSES = 12;
    private static final int MOST_FIELDS = 20;
    private static final int MOST_PARAMETERS = 7;
    private static final int MOST_LINES = 60;

    /** With the number of the rule; comments and texts are left out before they are looked for. */
    private static final String[][] BANNED = {
        {"one file without a package line, and no library", "\\b(package|import|java)\\b"},
        {"2: no lambda, no method reference", "->|::"},
        {"4: no function whose name ends in Exact", "Exact\\b"},
        {"6: no finally, synchronized, assert, try",
            "\\b(finally|synchronized|assert|try|catch)\\b"},
        {"6: no exception class of its own", "\\bextends\\b"},
        {"10: no joining of texts", "\"\\s*\\+|\\+\\s*\""},
        {"13: no clock, randomness, thread or environment",
            "\\b(System|Random|Thread|Runtime|Process|Math\\.random)\\b"}};

    private static final Pattern THROW = Pattern.compile("\\bthrow\\b[^;]*;");
    private static final Pattern KNOWN_THROW = Pattern.compile("throw new (IllegalStateException"
            + "|IllegalArgumentException|IndexOutOfBoundsException)\\((\"\")?\\);");
    private static final Pattern METHOD_START = Pattern.compile("^( {4}| {8})[^ ].*\\(.*");

    private LanguageTest() {
    }

    public static void main(String[] args) throws IOException {
        Path folder = Path.of(args.length > 0 ? args[0] : ".").resolve("src/main/java");
        try (Stream<Path> files = Files.list(folder)) {
            Script.due("one file", 1, files.count());
        }
        String text = Files.readString(folder.resolve("PartyLines.java"));
        Script.due("its signs are 1 to 127", true, text.chars().allMatch(c -> c >= 1 && c <= 127));
        String code = withoutCommentsAndTexts(text);
        for (String[] banned : BANNED) {
            Matcher found = Pattern.compile(banned[1]).matcher(code);
            Script.due("rule " + banned[0], "nothing", found.find() ? found.group() : "nothing");
        }
        throwsOnlyKnown(code);
        methodsAreShort(code);
        members();
        Script.end();
    }

    private static String withoutCommentsAndTexts(String text) {
        return text.replaceAll("(?s)/\\*.*?\\*/", "").replaceAll("//[^\n]*", "")
                .replaceAll("\"[^\"\n]*\"", "\"\"");
    }

    private static void throwsOnlyKnown(String code) {
        Matcher thrown = THROW.matcher(code);
        while (thrown.find()) {
            Script.due("rule 6: " + thrown.group(), true,
                    KNOWN_THROW.matcher(thrown.group()).matches());
        }
    }

    /** A method ends with the first brace that stands as far in as its first line. */
    private static void methodsAreShort(String code) {
        String[] lines = code.split("\n");
        for (int start = 0; start < lines.length; start++) {
            Matcher first = METHOD_START.matcher(lines[start]);
            if (first.matches() && !lines[start].contains(";")) {
                int end = start;
                while (end < lines.length && !lines[end].equals(first.group(1) + "}")) {
                    end++;
                }
                Script.due("rule 11: short, " + lines[start].trim(), true,
                        end - start < MOST_LINES);
            }
        }
    }

    private static void members() {
        List<Class<?>> classes = new ArrayList<>(List.of(PartyLines.class.getDeclaredClasses()));
        classes.add(PartyLines.class);
        Script.due("rule 11: classes", true, classes.size() <= MOST_CLASSES);
        for (Class<?> type : classes) {
            int fields = 0;
            for (Field field : type.getDeclaredFields()) {
                boolean isStatic = Modifier.isStatic(field.getModifiers());
                fields += isStatic ? 0 : 1;
                Script.due("rule 5: " + field, isStatic,
                        isStatic && Modifier.isFinal(field.getModifiers()));
            }
            Script.due("rule 11: fields of " + type, true, fields <= MOST_FIELDS);
            for (Method method : type.getDeclaredMethods()) {
                Script.due("rule 11: parameters of " + method, true,
                        method.getParameterCount() <= MOST_PARAMETERS);
            }
        }
    }
}
