import java.io.IOException;
import java.lang.reflect.Method;
import java.lang.reflect.Modifier;
import java.nio.file.DirectoryStream;
import java.nio.file.Files;
import java.nio.file.Path;
import java.util.ArrayList;
import java.util.List;

/** README.md says how to use the class: its example answers as it says, and it names each call and each test. */
public final class ReadmeTest {
    private static final Path README = Path.of("README.md");
    private static final Path TESTS = Path.of("src/test/java");
    private static final Check check = new Check("ReadmeTest");

    public static void main(String[] args) throws IOException {
        List<String> readme = Files.readAllLines(README);
        exampleAnswersAsItSays();
        exampleIsTheOneThatRuns(readme);
        namesEachCall(readme);
        namesEachTest(readme);
        check.end();
    }

    /** The lines of README.md, one by one, and behind them what they say. */
    private static void exampleAnswersAsItSays() {
        QuizFixtures league = new QuizFixtures();    // 4 teams, not staged
        check.due("teams at first", league.count(0), 4);
        check.due("with a venue at first", league.count(3), 0);
        int matches = league.begin(6);               // 15: six teams, each two meet once
        check.due("matches", matches, 15);
        league.close(0, 0b00011);                    // venue 0 is closed in the rounds 0 and 1
        league.away(2, 127);                         // setter 2 is away in all rounds
        int withVenue = league.stage();              // 15: all matches have a venue and a setter
        check.due("withVenue", withVenue, 15);
        check.due("venue 0 in round 0", league.busy(0, 0), QuizFixtures.NONE);
        check.due("venue 0 in round 1", league.busy(1, 0), QuizFixtures.NONE);
        int points = league.score(0, 42, 37);        // 2: the points of match 0's first team
        check.due("points", points, 2);
        int ofGiver = league.walkover(1, true);      // -1: the second team of match 1 gave a walkover
        check.due("ofGiver", ofGiver, -1);
        int statesLeft = league.undo();              // 5: and match 1 has no result again
        check.due("statesLeft", statesLeft, 5);
        check.due("result of match 1", league.match(1, 8), 0);
        String text = "1=10:10;2=w2";
        for (int at = 0; at < text.length(); at++) {
            league.append(text.charAt(at));
        }
        int wrongAt = league.firstError();           // 12: the length, so nothing is wrong
        check.due("wrongAt", wrongAt, 12);
        int withResult = league.report();            // 3: matches that have a result
        check.due("withResult", withResult, 3);
        int leader = league.table(0);                // 2: the team at the first place
        check.due("leader", leader, 2);
        int stillFirst = league.bestPlace(4);        // 0: team 4 can still come to the first place
        check.due("stillFirst", stillFirst, 0);
        double share = league.closeness();           // -0.5: the last one's points by the first one's
        check.dueDouble("share", share, -0.5);
    }

    private static void exampleIsTheOneThatRuns(List<String> readme) throws IOException {
        List<String> running = new ArrayList<>();
        for (String line : Files.readAllLines(TESTS.resolve("ReadmeTest.java"))) {
            running.add(line.strip());
        }
        int from = readme.indexOf("```java");
        int to = readme.lastIndexOf("```");
        check.dueTrue("README.md has an example", from >= 0 && to > from + 1);
        int behind = 0;
        for (int at = from + 1; at < to; at++) {
            String line = readme.get(at).strip();
            int found = running.subList(behind, running.size()).indexOf(line);
            check.dueTrue("ReadmeTest runs in this order: " + line, found >= 0);
            behind += Math.max(found, -1) + 1;
        }
    }

    private static void namesEachCall(List<String> readme) {
        for (Method method : QuizFixtures.class.getDeclaredMethods()) {
            if (Modifier.isPublic(method.getModifiers())) {
                String start = "| `" + method.getName() + "(";
                check.due("rows of README.md that begin with " + start, rowsWith(readme, start), 1);
            }
        }
    }

    private static void namesEachTest(List<String> readme) throws IOException {
        int tests = 0;
        try (DirectoryStream<Path> files = Files.newDirectoryStream(TESTS, "*Test.java")) {
            for (Path file : files) {
                tests++;
                String start = "| " + file.getFileName().toString().replace(".java", "") + " |";
                check.due("rows of README.md that begin with " + start, rowsWith(readme, start), 1);
            }
        }
        int named = 0;
        for (String line : readme) {
            named += line.matches("\\| \\w+Test \\|.*") ? 1 : 0;
        }
        check.due("tests that README.md names", named, tests);
    }

    private static int rowsWith(List<String> readme, String start) {
        int rows = 0;
        for (String line : readme) {
            rows += line.startsWith(start) ? 1 : 0;
        }
        return rows;
    }
}
