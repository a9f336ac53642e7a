import java.io.IOException;
import java.io.UncheckedIOException;
import java.nio.file.Files;
import java.nio.file.Path;
import java.util.HashSet;
import java.util.Set;

/** Tests of single sentences of the document: each bears a promise's number and the sentence's first words. */
final class Sentence {
    private static final String DOCUMENT = read(Path.of("../shared/DOC.md"));
    private static final Set<String> NAMES = new HashSet<>();

    private Sentence() {
    }

    /** The words are looked for in the document, so that a test can not outlive the sentence that it holds. */
    static void test(String promise, String firstWords, Runnable test) {
        String name = "promise " + promise + ", '" + firstWords + "'";
        Checks.due(name + " stands in the document", DOCUMENT.contains(firstWords));
        Checks.due(name + " has one test", NAMES.add(name));
        Checks.about(name);
        test.run();
        Checks.about("");
    }

    private static String read(Path path) {
        try {
            return Files.readString(path).replaceAll("\\s+", " ");
        } catch (IOException e) {
            throw new UncheckedIOException(e);
        }
    }
}
