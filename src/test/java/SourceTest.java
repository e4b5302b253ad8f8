import java.io.IOException;
import java.nio.file.Files;
import java.nio.file.Path;
import java.util.List;
import java.util.regex.Pattern;

/** What can be told from the text of the class about the rules of LANGUAGE.md and about its room. */
public final class SourceTest {
    private static final int LONGEST_METHOD = 60;
    private static final String[] FORBIDDEN = {"\\bimport\\b", "^package\\b", "->", "::", "\\btry\\b", "\\bcatch\\b",
        "\\bfinally\\b", "\\bsynchronized\\b", "\\bassert\\b", "\\binstanceof\\b", "\\bObject\\b", "Exact\\(",
        "\\bDouble\\.", "\\bFloat\\.", "\\bInteger\\.", "\\bSystem\\.(?!arraycopy\\()", "\\bMath\\.(?!min\\(|max\\()",
        "\\bThread\\b", "\\bRandom\\b", "\\b(equals|hashCode|toString)\\(", "\\bprotected\\b", "\\bstatic \\{",
        "\"\\s*\\+", "\\+\\s*\"",
        "\\bthrow\\b(?! new (IllegalState|IllegalArgument|IndexOutOfBounds)Exception\\()"};
    private static final Pattern MEMBER = Pattern.compile("^( {4}| {8})\\S.*\\{$");
    private static final Check check = new Check("SourceTest");

    public static void main(String[] args) throws IOException {
        List<String> lines = Files.readAllLines(Path.of("src/main/java/QuizFixtures.java"));
        for (int at = 0; at < lines.size(); at++) {
            String line = lines.get(at);
            String where = "line " + (at + 1) + ": ";
            check.dueTrue(where + "signs 32 to 126 alone", line.matches("[ -~]*"));
            String code = line.replaceAll("\"[^\"]*\"", "\"\"").replaceAll("//.*", "");
            for (String forbidden : FORBIDDEN) {
                check.dueTrue(where + forbidden, !Pattern.compile(forbidden).matcher(code).find());
            }
            check.dueTrue(where + "makes something new in a call", !makesInCall(code));
        }
        methodsAreShort(lines);
        check.end();
    }

    /** Only fields and constructors make things, so that 512 calls need no room but their exceptions'. */
    private static boolean makesInCall(String code) {
        return Pattern.compile("\\bnew\\b").matcher(code).find()
            && !code.matches("\\s+throw new \\w+\\(\"\"\\);\\s*")
            && !code.matches("\\s+(private )?final \\S+ \\w+ = new \\w+\\[\\w+\\];\\s*")
            && !code.matches("\\s+\\w+(\\[at\\])? = new (League|Standings|Staging|History|ResultText)\\(\\);\\s*");
    }

    private static void methodsAreShort(List<String> lines) {
        for (int at = 0; at < lines.size(); at++) {
            String line = lines.get(at);
            if (!MEMBER.matcher(line).matches() || line.contains(" class ")) {
                continue;
            }
            String close = line.replaceAll("\\S.*", "") + "}";
            int end = at;
            while (end < lines.size() && !lines.get(end).equals(close)) {
                end++;
            }
            check.dueTrue("the method at line " + (at + 1) + " is short", end - at <= LONGEST_METHOD);
        }
    }
}
