import java.io.IOException;
import java.lang.reflect.Method;
import java.lang.reflect.Modifier;
import java.net.URL;
import java.net.URLClassLoader;
import java.nio.file.Files;
import java.nio.file.Path;
import java.util.ArrayList;
import java.util.Arrays;
import java.util.HashSet;
import java.util.List;
import java.util.Set;
import java.util.TreeSet;
import java.util.regex.Matcher;
import java.util.regex.Pattern;
import javax.tools.ToolProvider;

/**
 * The calls that README.md shows, made as they stand there: its pieces of Java are compiled, and
 * each answer is the one behind the call. The table of calls is the public face.
 */
final class ReadmeTest {
    private static final Pattern SHOWN = Pattern.compile("(.*;) +// ([^:]+)(: .+)?");
    private static final Pattern DECLARATION = Pattern.compile("(?:int|long|boolean) (\\w+) = .*;");
    private static final Pattern CALL = Pattern.compile("\\blines\\.(\\w+)\\(");
    private static final Pattern QUOTED = Pattern.compile("`([^`]+)`");
    private static final String MAKING = "PartyLines lines = new PartyLines();";
    private static final String THROWS = "throws ";

    private final List<String> shown = new ArrayList<>();
    private final List<String> due = new ArrayList<>();
    private final Set<String> called = new HashSet<>();
    private final StringBuilder program = new StringBuilder();

    private ReadmeTest() {
    }

    /** The project's folder, and one in which the page's program is compiled. */
    public static void main(String[] args) throws Exception {
        if (args.length != 2) {
            System.out.println("use: ReadmeTest project folder");
            System.exit(1);
        }
        List<String> page = Files.readAllLines(Path.of(args[0], "README.md"));
        ReadmeTest test = new ReadmeTest();
        test.translate(page);
        test.compare(run(test.program.toString(), Path.of(args[1])));
        Script.due("README: the calls that are shown", faceNames(), new TreeSet<>(test.called));
        Script.due("README: the table", faceRows(), tableRows(page));
        Script.end();
    }

    private void translate(List<String> page) {
        program.append("public final class ReadmeCalls {\n");
        program.append("public static void run(java.util.List<String> answers) {\n");
        boolean isJava = false;
        for (String line : page) {
            if (line.equals("```java")) {
                isJava = true;
                program.append("{\n");
            } else if (isJava && line.equals("```")) {
                isJava = false;
                program.append("}\n");
            } else if (isJava && line.equals(MAKING)) {
                program.append(line).append('\n');
            } else if (isJava) {
                translateCall(line);
            }
        }
        program.append("}\n}\n");
    }

    private void translateCall(String line) {
        Matcher matcher = SHOWN.matcher(line);
        boolean hasAnswer = matcher.matches();
        Script.due("README: an answer stands behind " + line, true, hasAnswer);
        if (!hasAnswer) {
            return;
        }
        shown.add(line);
        due.add(matcher.group(2));
        Matcher call = CALL.matcher(line);
        while (call.find()) {
            called.add(call.group(1));
        }
        program.append(asking(matcher.group(1), matcher.group(2))).append('\n');
    }

    /** A name that is declared is used below, so its line cannot stand inside a try. */
    private static String asking(String statement, String answer) {
        Matcher declaration = DECLARATION.matcher(statement);
        if (declaration.matches()) {
            return statement + " answers.add(String.valueOf(" + declaration.group(1) + "));";
        }
        String call = statement.substring(0, statement.length() - 1);
        String asked = "answers.add(String.valueOf(" + call + "));";
        if (!answer.startsWith(THROWS)) {
            return asked;
        }
        return "try { " + asked + " } catch (RuntimeException e) { answers.add(\"" + THROWS
                + "\" + e.getClass().getSimpleName()); }";
    }

    private static List<String> run(String program, Path folder) throws Exception {
        List<String> answers = new ArrayList<>();
        compile(program, folder);
        URL[] places = {folder.toUri().toURL()};
        try (URLClassLoader loader = new URLClassLoader(places, ReadmeTest.class.getClassLoader())) {
            Class.forName("ReadmeCalls", true, loader).getMethod("run", List.class)
                    .invoke(null, answers);
        }
        return answers;
    }

    private static void compile(String program, Path folder) throws IOException {
        Path file = Files.createDirectories(folder).resolve("ReadmeCalls.java");
        Files.writeString(file, program);
        int failed = ToolProvider.getSystemJavaCompiler().run(null, null, null, "-cp",
                System.getProperty("java.class.path"), "-d", folder.toString(), file.toString());
        Script.due("README: its Java compiles", 0, failed);
    }

    private void compare(List<String> answers) {
        Script.due("README: the number of answers", due.size(), answers.size());
        for (int i = 0; i < Math.min(due.size(), answers.size()); i++) {
            Script.due("README: " + shown.get(i), due.get(i), answers.get(i));
        }
    }

    private static Set<String> faceNames() {
        Set<String> names = new TreeSet<>();
        for (Method method : PartyLines.class.getDeclaredMethods()) {
            if (Modifier.isPublic(method.getModifiers())) {
                names.add(method.getName());
            }
        }
        return names;
    }

    /** Name, number of parameters, and exceptions in their order. */
    private static Set<String> faceRows() {
        Set<String> rows = new TreeSet<>();
        for (Method method : PartyLines.class.getDeclaredMethods()) {
            if (Modifier.isPublic(method.getModifiers())) {
                List<String> thrown = new ArrayList<>();
                for (Class<?> type : method.getExceptionTypes()) {
                    thrown.add(type.getSimpleName());
                }
                rows.add(method.getName() + " " + method.getParameterCount() + " " + thrown);
            }
        }
        return rows;
    }

    private static Set<String> tableRows(List<String> page) {
        Set<String> rows = new TreeSet<>();
        for (String line : page) {
            if (line.startsWith("| `")) {
                List<String> quoted = new ArrayList<>();
                Matcher matcher = QUOTED.matcher(line);
                while (matcher.find()) {
                    quoted.add(matcher.group(1));
                }
                String call = quoted.remove(0);
                rows.add(call.substring(0, call.indexOf('(')) + " " + parameters(call) + " " + quoted);
            }
        }
        return rows;
    }

    private static long parameters(String call) {
        String inside = call.substring(call.indexOf('(') + 1, call.indexOf(')'));
        return Arrays.stream(inside.split(", ")).filter(name -> !name.isEmpty()).count();
    }
}
