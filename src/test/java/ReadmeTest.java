import java.io.ByteArrayOutputStream;
import java.io.IOException;
import java.io.PrintStream;
import java.lang.reflect.Field;
import java.lang.reflect.Modifier;
import java.net.URL;
import java.net.URLClassLoader;
import java.nio.file.Files;
import java.nio.file.Path;
import java.util.ArrayList;
import java.util.List;
import java.util.regex.Matcher;
import java.util.regex.Pattern;
import javax.tools.JavaCompiler;
import javax.tools.ToolProvider;

/** README.md: the calls with their errors as in the document, the constants, and an example that prints what it says. */
public final class ReadmeTest {
    private static final Pattern HEAD = Pattern.compile("^    public (int (\\w+)\\(.*\\)) \\{$", Pattern.MULTILINE);
    private static final Pattern CALL = Pattern.compile("^\\| `(int \\w+\\(.*?\\))` \\| .* \\| ([A-Z_, ]+|-) \\|$", Pattern.MULTILINE);
    private static final Pattern CONSTANT = Pattern.compile("^\\| `([A-Z_]+)` \\| (-?\\d+) \\| .+ \\|$", Pattern.MULTILINE);
    private static final Pattern ERROR = Pattern.compile("(NO_SUCH|BAD_VALUE|BAD_TEXT|TOO_MANY|NOT_POSSIBLE) if");
    private static final Pattern EXAMPLE = Pattern.compile("```java\n(.*?)```", Pattern.DOTALL);
    private static final Pattern TOLD = Pattern.compile("^ *tell\\(.*\\); // (-?\\d+): .+$", Pattern.MULTILINE);

    public static void main(String[] args) throws IOException, ReflectiveOperationException {
        String readme = Files.readString(Path.of("README.md"));
        calls(readme);
        constants(readme);
        example(readme);
        Checks.end("ReadmeTest");
    }

    private static void isTrue(String what, boolean isSo) {
        Checks.due(what, isSo ? 1 : 0, 1);
    }

    private static List<String> found(Pattern pattern, int group, String text) {
        List<String> found = new ArrayList<>();
        Matcher matcher = pattern.matcher(text);
        while (matcher.find()) {
            found.add(matcher.group(group));
        }
        return found;
    }

    private static void calls(String readme) throws IOException {
        String source = Files.readString(Path.of("src/main/java/MendingMornings.java"));
        String document = Files.readString(Path.of("../shared/DOC.md"));
        List<String> told = found(CALL, 1, readme);
        List<String> errors = found(CALL, 2, readme);
        List<String> heads = found(HEAD, 1, source);
        List<String> names = found(HEAD, 2, source);
        Checks.due("calls in README.md", told.size(), heads.size());
        Checks.due("calls of the face", heads.size(), 26);
        for (int i = 0; i < heads.size(); i++) {
            int row = told.indexOf(heads.get(i));
            isTrue("README.md has " + heads.get(i), row >= 0);
            String due = errorsOf(document, names.get(i));
            isTrue("README.md: " + heads.get(i) + " has the errors " + due, row >= 0 && errors.get(row).equals(due));
        }
    }

    /** The errors of a promise, in the order in which the document names them. */
    private static String errorsOf(String document, String call) {
        int start = document.indexOf(": " + call + "\n");
        int end = document.indexOf("\n## ", Math.max(start, 0));
        isTrue("the document has a promise for " + call, start >= 0 && end > start);
        List<String> errors = start >= 0 && end > start ? found(ERROR, 1, document.substring(start, end)) : List.of();
        return errors.isEmpty() ? "-" : String.join(", ", errors);
    }

    private static void constants(String readme) throws ReflectiveOperationException {
        List<String> told = found(CONSTANT, 1, readme);
        List<String> values = found(CONSTANT, 2, readme);
        int many = 0;
        for (Field field : MendingMornings.class.getDeclaredFields()) {
            if (Modifier.isPublic(field.getModifiers())) {
                int row = told.indexOf(field.getName());
                isTrue("README.md has " + field.getName(), row >= 0);
                Checks.due(field.getName(), row >= 0 ? Integer.parseInt(values.get(row)) : Integer.MIN_VALUE, field.getInt(null));
                many++;
            }
        }
        Checks.due("constants in README.md", told.size(), many);
    }

    private static void example(String readme) throws IOException, ReflectiveOperationException {
        List<String> examples = found(EXAMPLE, 1, readme);
        Checks.due("examples in README.md", examples.size(), 1);
        for (String example : examples) {
            List<String> due = found(TOLD, 1, example);
            List<String> printed = printed(example).lines().toList();
            isTrue("the example tells much", due.size() >= 10);
            Checks.due("what the example prints", printed.size(), due.size());
            for (int i = 0; i < due.size() && i < printed.size(); i++) {
                Checks.due("the example's answer " + i, Long.parseLong(printed.get(i)), Long.parseLong(due.get(i)));
            }
        }
    }

    private static String printed(String example) throws IOException, ReflectiveOperationException {
        Path directory = Files.createTempDirectory("example");
        Path source = directory.resolve("Example.java");
        Path compiled = directory.resolve("Example.class");
        try {
            Files.writeString(source, example);
            JavaCompiler compiler = ToolProvider.getSystemJavaCompiler();
            int failed = compiler == null ? -1 : compiler.run(null, null, null, "-Xlint:all", "-Werror", "-d",
                directory.toString(), "-cp", System.getProperty("java.class.path"), source.toString());
            Checks.due("the example's compilation", failed, 0);
            return failed == 0 ? run(directory) : "";
        } finally {
            Files.deleteIfExists(source);
            Files.deleteIfExists(compiled);
            Files.deleteIfExists(directory);
        }
    }

    private static String run(Path directory) throws IOException, ReflectiveOperationException {
        PrintStream before = System.out;
        ByteArrayOutputStream bytes = new ByteArrayOutputStream();
        try (URLClassLoader loader = new URLClassLoader(new URL[] {directory.toUri().toURL()})) {
            System.setOut(new PrintStream(bytes, true));
            loader.loadClass("Example").getMethod("main", String[].class).invoke(null, (Object) new String[0]);
        } finally {
            System.setOut(before);
        }
        return bytes.toString();
    }
}
