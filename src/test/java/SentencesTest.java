import java.io.IOException;
import java.lang.reflect.Method;
import java.nio.file.DirectoryStream;
import java.nio.file.Files;
import java.nio.file.Path;
import java.util.ArrayList;
import java.util.List;

/** Each test of the edges says sentences that the document has, and each bound that it names has a test. */
public final class SentencesTest {
    private static final Path DOCUMENT = Path.of("../shared/DOC.md");
    private static final Path TESTS = Path.of("src/test/java");
    private static final int PROMISES = 26;
    private static final Check check = new Check("SentencesTest");

    public static void main(String[] args) throws IOException, ClassNotFoundException {
        List<Method> tests = allTests();
        check.dueTrue("there are tests of the edges", !tests.isEmpty());
        if (!Files.exists(DOCUMENT)) {
            System.out.println("SentencesTest: there is no document here to look the sentences up in");
            check.end();
            return;
        }
        String document = Files.readString(DOCUMENT);
        for (Method test : tests) {
            saysWhatIsThere(test, document);
        }
        for (int promise = 1; promise <= PROMISES; promise++) {
            eachBoundIsSaid(promise, document, tests);
        }
        check.end();
    }

    private static List<Method> allTests() throws IOException, ClassNotFoundException {
        List<Method> tests = new ArrayList<>();
        try (DirectoryStream<Path> files = Files.newDirectoryStream(TESTS, "*EdgesTest.java")) {
            for (Path file : files) {
                String name = file.getFileName().toString();
                tests.addAll(Check.testsOf(Class.forName(name.substring(0, name.indexOf('.')))));
            }
        }
        return tests;
    }

    private static String[] sentencesOf(Method test) {
        Says says = test.getAnnotation(Says.class);
        return says == null ? new String[0] : says.value();
    }

    private static void saysWhatIsThere(Method test, String document) {
        check.dueTrue(test.getName() + " says a sentence", sentencesOf(test).length > 0);
        for (String sentence : sentencesOf(test)) {
            check.dueTrue("the document has: " + sentence, document.contains(sentence));
        }
    }

    private static void eachBoundIsSaid(int promise, String document, List<Method> tests) {
        String section = sectionOf(promise, document);
        check.dueTrue("the document has the promise " + promise, !section.isEmpty());
        String prefix = String.format("promise%02d_", promise);
        for (String line : section.split("\n")) {
            if (!line.matches("(- `|Returns |Throws ).*")) {
                continue;
            }
            boolean isSaid = false;
            for (Method test : tests) {
                isSaid |= test.getName().startsWith(prefix) && saysPartOf(test, line);
            }
            check.dueTrue("a test " + prefix + ".. says: " + line, isSaid);
        }
    }

    private static boolean saysPartOf(Method test, String line) {
        for (String sentence : sentencesOf(test)) {
            if (line.contains(sentence)) {
                return true;
            }
        }
        return false;
    }

    private static String sectionOf(int promise, String document) {
        int start = document.indexOf("## Promise " + promise + ":");
        int end = start < 0 ? -1 : document.indexOf("\n## ", start);
        return start < 0 ? "" : document.substring(start, end < 0 ? document.length() : end);
    }
}
