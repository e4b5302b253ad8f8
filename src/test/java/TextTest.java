/** Promises 10 to 14: append, clearBuffer, firstError, report, undo. */
public final class TextTest {
    private static final Class<IllegalArgumentException> BAD = IllegalArgumentException.class;
    private static final Class<IllegalStateException> NOT_NOW = IllegalStateException.class;
    private static final Check check = new Check("TextTest");

    public static void main(String[] args) {
        append();
        clearBuffer();
        firstError();
        reportGivesResults();
        reportRefuses();
        reportTakesTheLongest();
        undoRestoresAll();
        undoLeavesTheBuffer();
        undoHasSixStates();
        check.end();
    }

    private static void append() {
        QuizFixtures x = new QuizFixtures();
        check.due("append(33)", x.append(33), 1);
        check.due("append(126)", x.append(126), 2);
        for (int code : new int[] {32, 127, 0, -1, 256 + 48, Integer.MAX_VALUE, Integer.MIN_VALUE}) {
            check.refuses("append(" + code + ")", x, BAD, () -> x.append(code));
        }
        for (int length = 3; length <= 60; length++) {
            check.due("append", x.append(65), length);
        }
        check.refuses("the 61st", x, NOT_NOW, () -> x.append(65));
        check.refuses("a bad code is told first", x, BAD, () -> x.append(32));
        check.due("not undoable", x.count(9), 0);
        check.due("clearBuffer()", x.clearBuffer(), 60);
        check.due("append again", x.append(65), 1);
    }

    private static void clearBuffer() {
        QuizFixtures x = new QuizFixtures();
        check.due("empty", x.clearBuffer(), 0);
        Check.write(x, "0=1:2");
        long before = x.digest();
        check.due("five", x.clearBuffer(), 5);
        check.due("empty again", x.clearBuffer(), 0);
        check.due("not undoable", x.count(9), 0);
        check.dueTrue("the hash holds the buffer", x.digest() != before);
    }

    private static void errorAt(String text, int want) {
        QuizFixtures x = new QuizFixtures();
        Check.write(x, text);
        check.looks("firstError of " + text, x, want, () -> x.firstError());
    }

    private static void firstError() {
        errorAt("", 0);
        for (String text : new String[] {"0", "1", "9", "10", "19", "20", "27", "27=", "0=w", "0=w1", "0=w2", "0=0",
            "0=9", "0=10", "0=99", "0=99:", "0=99:0", "0=0:99", "0=1:2;", "0=w1;", "0=w1;27", "0=w2;3=4:5;6=7:8",
            "27=w1;27=w2;0=0:0;0=10:10"}) {
            errorAt(text, text.length());
        }
        for (String text : new String[] {"a", ";", "=", "w", ":", "-", "0=1:2;;", "0=w1;=", "0=w1;w", "00", "01",
            "28", "29", "30", "99", "100", "270", "0:", "0w", "0;", "0==", "0=;", "0=:", "0=w0", "0=w3", "0=w;",
            "0=w=", "0=w11", "0=w1:", "0=w1=", "0=W", "0=00", "0=01", "0=100", "0=1;", "0=1=", "0=1w", "0=1::",
            "0=1:;", "0=1:w", "0=1:00", "0=1:05", "0=1:100", "0=1:2:", "0=1:2=", "0=1:2w", "1=2:3;28", "1=2:3;00"}) {
            errorAt(text, text.length() - 1);
        }
        errorAt("28=w1", 1);
        errorAt("x=w1;y", 0);
        errorAt("5=w1;6=100:2", 9);
        // A text that is cut off by the buffer's end is no error: results of any length begin with it.
        String full = "10=10:10;11=11:11;12=12:12;13=13:13;14=14:14;15=15:15;16=16:";
        errorAt(full.substring(0, 60), 60);
    }

    private static void reportGivesResults() {
        QuizFixtures x = new QuizFixtures();
        x.stage();
        Check.write(x, "0=99:0;1=w1;2=w2;3=7:7");
        check.due("report()", x.report(), 4);
        int[][] due = {{99, 0, 1}, {0, 20, 2}, {20, 0, 3}, {7, 7, 1}, {-1, -1, 0}, {-1, -1, 0}};
        for (int match = 0; match < 6; match++) {
            for (int what = 6; what < 9; what++) {
                check.due("match(" + match + ", " + what + ")", x.match(match, what), due[match][what - 6]);
            }
        }
        check.due("the buffer is cleared", x.clearBuffer(), 0);
        check.due("one state is saved", x.count(9), 2);
        Check.write(x, "0=10:12;0=w1;5=0:1");
        check.due("the later one stands", x.report(), 5);
        check.due("a walkover", x.match(0, 8), 2);
        Check.write(x, "1=5:6");
        check.due("results", x.report(), 5);
        check.due("others stay", x.match(0, 8) * 10 + x.match(5, 8), 21);
        x.undo();
        Check.write(x, "0=w1;0=3:4");
        check.due("results", x.report(), 5);
        check.due("scores", x.match(0, 8) * 10000 + x.match(0, 6) * 100 + x.match(0, 7), 10304);
        check.due("undo()", x.undo(), 3);
        check.due("undo()", x.undo(), 2);
        check.due("all of one report is undone", x.count(4), 4);
        check.due("undo()", x.undo(), 1);
        check.due("all of the first one", x.count(4), 0);
    }

    private static void reportRefused(QuizFixtures x, String text, Class<? extends RuntimeException> kind) {
        x.clearBuffer();
        Check.write(x, text);
        check.refuses("report of " + text, x, kind, () -> x.report());
        check.due("the buffer stays", x.clearBuffer(), text.length());
    }

    private static void reportRefuses() {
        QuizFixtures x = new QuizFixtures();
        reportRefused(x, "0=1:1", NOT_NOW);
        reportRefused(x, "6=1:1", NOT_NOW);
        reportRefused(x, "0=1:", BAD);
        x.stage();
        for (String text : new String[] {"", "0", "0=", "0=1", "0=1:", "0=w", "0=w1;", "0=1:1;", "0=1:1;1", "x",
            "0=1:1x", "0=w1w", "28=w1", "6=w1;", "0=1:1;1=w3"}) {
            reportRefused(x, text, BAD);
        }
        for (String text : new String[] {"6=w1", "27=0:0", "0=1:1;6=1:1", "6=1:1;0=1:1", "0=w1;1=w1;10=w1"}) {
            reportRefused(x, text, NOT_NOW);
        }
        check.due("all or none", x.count(4), 0);
        x.set(3, 1);
        x.stage();
        reportRefused(x, "5=w1", NOT_NOW);
        reportRefused(x, "0=1:1;5=1:1", NOT_NOW);
        check.due("none", x.count(4), 0);
        x.begin(8);
        x.set(3, 28);
        x.stage();
        Check.write(x, "27=0:0");
        check.due("the last match of 8 teams", x.report(), 1);
    }

    private static void reportTakesTheLongest() {
        QuizFixtures x = new QuizFixtures();
        x.stage();
        String twelve = "0=w1;1=w1;2=w1;3=w1;4=w1;5=w1;0=w2;1=w2;2=w2;3=w2;4=w2;5=w2";
        Check.write(x, twelve);
        check.due("no error", x.firstError(), 59);
        check.due("twelve parts", x.report(), 6);
        for (int match = 0; match < 6; match++) {
            check.due("the later one", x.match(match, 8), 3);
        }
        Check.write(x, twelve + ";");
        check.due("no error", x.firstError(), 60);
        check.refuses("not complete", x, BAD, () -> x.report());
        x.clearBuffer();
        Check.write(x, "0=10:10;1=11:11;2=12:12;3=13:13;4=14:14;5=15:15;0=16:16;1=1:");
        check.due("sixty characters", x.firstError(), 60);
        check.refuses("not complete", x, BAD, () -> x.report());
    }

    private static void undoRestoresAll() {
        QuizFixtures x = new QuizFixtures();
        long[] before = new long[6];
        String[] calls = {"begin", "close", "away", "stage", "score", "walkover"};
        for (int at = 0; at < 6; at++) {
            before[at] = x.digest();
            change(x, at);
        }
        for (int at = 5; at >= 0; at--) {
            check.due("undo of " + calls[at], x.undo(), at);
            check.due("the state before " + calls[at], x.digest(), before[at]);
        }
        check.refuses("nothing is left", x, NOT_NOW, () -> x.undo());
        x.stage();
        x.score(0, 5, 6);
        long scored = x.digest();
        x.annul(0);
        x.undo();
        check.due("the state before annul", x.digest(), scored);
        x.set(2, 50);
        x.undo();
        check.due("the state before set", x.digest(), scored);
        x.begin(8);
        x.undo();
        check.due("the state before begin", x.digest(), scored);
        for (int number = 0; number < 6; number++) {
            x.close(number, 127);
        }
        x.stage();
        x.away(0, 1);
        x.begin(4);
        x.undo();
        check.due("the reason is back", x.match(1, 5), 1);
        x.undo();
        x.undo();
        check.due("and away", x.match(1, 5), 0);
    }

    private static void change(QuizFixtures x, int at) {
        switch (at) {
            case 0: x.begin(6); break;
            case 1: x.close(2, 3); break;
            case 2: x.away(3, 5); break;
            case 3: x.stage(); break;
            case 4: x.score(0, 5, 6); break;
            default: x.walkover(0, true); break;
        }
    }

    private static void undoLeavesTheBuffer() {
        QuizFixtures x = new QuizFixtures();
        x.stage();
        Check.write(x, "0=1:1");
        x.report();
        Check.write(x, "5=");
        check.due("undo()", x.undo(), 1);
        check.due("the buffer as it is", x.clearBuffer(), 2);
        check.due("the result is gone", x.match(0, 8), 0);
    }

    private static void undoHasSixStates() {
        QuizFixtures x = new QuizFixtures();
        for (int value = 1; value <= 10; value++) {
            x.set(2, value);
            check.due("saved states", x.count(9), Math.min(value, 6));
        }
        for (int left = 5; left >= 0; left--) {
            check.due("undo()", x.undo(), left);
            check.due("the value before", x.setting(2), left + 4);
        }
        check.refuses("the oldest ones are dropped", x, NOT_NOW, () -> x.undo());
        x.annul(0);
        check.due("a call that changes nothing is saved", x.count(9), 1);
        x.set(2, 40);
        check.due("undo()", x.undo(), 1);
        x.set(2, 41);
        check.due("undo()", x.undo(), 1);
        check.due("undo()", x.undo(), 0);
        check.due("the value", x.setting(2), 4);
    }
}
