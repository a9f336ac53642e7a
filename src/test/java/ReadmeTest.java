import java.io.ByteArrayOutputStream;
import java.io.IOException;
import java.io.PrintStream;
import java.lang.reflect.Field;
import java.lang.reflect.InvocationTargetException;
import java.lang.reflect.Method;
import java.lang.reflect.Modifier;
import java.net.URL;
import java.net.URLClassLoader;
import java.nio.charset.StandardCharsets;
import java.nio.file.Files;
import java.nio.file.Path;
import java.util.Comparator;
import java.util.List;
import java.util.regex.Matcher;
import java.util.regex.Pattern;
import java.util.stream.Stream;
import javax.tools.ToolProvider;

/** README.md: its example prints what it says, and it tells of every method, constant, step and test. */
public final class ReadmeTest {
    public static void main(String[] args) throws Exception {
        String readme = Files.readString(Path.of("README.md"));
        String document = Files.readString(Path.of("../shared/DOC.md"));
        example(readme);
        methods(readme, document);
        constants(readme);
        steps(readme);
        tests(readme);
        Checks.end();
    }

    private static void example(String readme) throws Exception {
        Path folder = Files.createTempDirectory("readme");
        try {
            String printed = run(folder, between(readme, "```java\n", "```"));
            String told = between(readme, "```text\n", "```");
            Checks.due("the example prints\n" + printed + "and not\n" + told, printed.equals(told));
        } finally {
            delete(folder);
        }
    }

    private static String between(String text, String begin, String end) {
        int from = text.indexOf(begin) + begin.length();
        return text.substring(from, text.indexOf(end, from));
    }

    private static String run(Path folder, String source) throws Exception {
        Path file = Files.writeString(folder.resolve("Example.java"), source);
        int refused = ToolProvider.getSystemJavaCompiler().run(null, null, null, "-cp",
                System.getProperty("java.class.path"), "-d", folder.toString(), file.toString());
        Checks.due("javac of the example", refused, 0);
        ByteArrayOutputStream bytes = new ByteArrayOutputStream();
        PrintStream before = System.out;
        System.setOut(new PrintStream(bytes, true, StandardCharsets.UTF_8));
        try (URLClassLoader loader = new URLClassLoader(new URL[] {folder.toUri().toURL()})) {
            loader.loadClass("Example").getMethod("main", String[].class).invoke(null, (Object) new String[0]);
        } catch (InvocationTargetException e) {
            Checks.due("the example throws " + e.getCause(), false);
        } finally {
            System.setOut(before);
        }
        return bytes.toString(StandardCharsets.UTF_8).replace(System.lineSeparator(), "\n");
    }

    private static void delete(Path folder) throws IOException {
        try (Stream<Path> all = Files.walk(folder)) {
            for (Path path : all.sorted(Comparator.reverseOrder()).toList()) {
                Files.delete(path);
            }
        }
    }

    /** Each has a row in the table, with its parameters as in the document's face. */
    private static void methods(String readme, String document) {
        Matcher heads = Pattern.compile("public int (\\w+)\\(([^)]*)\\);").matcher(document);
        int many = 0;
        while (heads.find()) {
            many++;
            String row = "| `" + heads.group(1) + "(" + heads.group(2).replace("int ", "") + ")` |";
            Checks.due("README has " + row, readme.contains(row));
        }
        long due = Stream.of(SealKeeper.class.getDeclaredMethods()).map(Method::getModifiers)
                .filter(Modifier::isPublic).count();
        Checks.due("methods in the document's face", many, due);
    }

    private static void constants(String readme) throws IllegalAccessException {
        for (Field f : SealKeeper.class.getFields()) {
            String row = "| `" + f.getName() + "` | " + f.getInt(null) + " |";
            Checks.due("README has " + row, readme.contains(row));
        }
    }

    /** The table tells them in the order of their numbers, as step(step, 0) answers these. */
    private static void steps(String readme) {
        List<String> words = Pattern.compile("(?m)^\\| `(\\w+) [^`]*[;}]` \\|").matcher(readme).results()
                .map(found -> found.group(1)).toList();
        Checks.due("the table of steps " + words, words.equals(Model.WORDS));
    }

    private static void tests(String readme) throws IOException {
        try (Stream<Path> all = Files.list(Path.of("src/test/java"))) {
            for (Path path : all.filter(p -> p.toString().endsWith("Test.java")).toList()) {
                String row = "| `" + path.getFileName().toString().replace(".java", "") + "` |";
                Checks.due("README has " + row, readme.contains(row));
            }
        }
    }
}
