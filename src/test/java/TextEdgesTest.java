/** The edges of the promises 10 to 13: append, clearBuffer, firstError, report. */
public final class TextEdgesTest {
    private static final Check check = new Check("TextEdgesTest");
    private static final Edges edges = new Edges(check);

    public static void main(String[] args) {
        check.runTestsOf(TextEdgesTest.class);
        check.end();
    }

    private static QuizFixtures holding(String text) {
        QuizFixtures x = Edges.staged(4);
        Check.write(x, text);
        return x;
    }

    // ---- append

    @Says({"`code`: the character code, 33 to 126", "Returns the new length of the buffer."})
    static void promise10_takesTheCodes33And126() {
        QuizFixtures x = new QuizFixtures();
        check.due("append(33)", x.append(33), 1);
        check.due("append(126)", x.append(126), 2);
    }

    @Says("Throws `IllegalArgumentException` if code is not 33 to 126")
    static void promise10_refusesTheCodes32And127() {
        edges.refused("append(32)", Edges.BAD, x -> x.append(32));
        edges.refused("append(127)", Edges.BAD, x -> x.append(127));
    }

    @Says("Throws `IllegalArgumentException` if code is not 33 to 126")
    static void promise10_refusesCodesFarOutside() {
        for (int code : new int[] {-1, 0, 33 + 128, 33 + 256, 33 + 65536, Integer.MIN_VALUE, Integer.MAX_VALUE}) {
            edges.refused("append(" + code + ")", Edges.BAD, x -> x.append(code));
        }
    }

    @Says({"The buffer has at most 60 characters.", "Throws `IllegalStateException` if the buffer has 60 characters"})
    static void promise10_takesThe60thButNotThe61stCharacter() {
        QuizFixtures x = new QuizFixtures();
        for (int length = 1; length <= 60; length++) {
            check.due("append", x.append(33 + length), length);
        }
        edges.refused("the 61st", () -> holding(Edges.FULL_AND_COMPLETE), Edges.NOT_NOW, y -> y.append('0'));
        check.refuses("the 61st again", x, Edges.NOT_NOW, () -> x.append(';'));
        check.due("clearBuffer()", x.clearBuffer(), 60);
        check.due("append behind clearBuffer", x.append('0'), 1);
    }

    @Says("If several exceptions apply, the one that is named first in the throws clause is thrown.")
    static void promise10_aBadCodeIsToldAheadOfAFullBuffer() {
        for (int code : new int[] {32, 127, -1, Integer.MAX_VALUE}) {
            String what = "append(" + code + ")";
            edges.refused(what, () -> holding(Edges.FULL_AND_COMPLETE), Edges.BAD, x -> x.append(code));
        }
    }

    @Says("Appends a character to the buffer.")
    static void promise10_savesNoState() {
        QuizFixtures x = Edges.inTheMidst();
        x.append('=');
        check.due("undo()", x.undo(), 5);
        check.due("the buffer is as it was", x.clearBuffer(), 7);
        QuizFixtures none = new QuizFixtures();
        none.append('0');
        check.due("count(9)", none.count(9), 0);
    }

    // ---- clearBuffer

    @Says("Returns the length that it had.")
    static void promise11_returns0OfAnEmptyBuffer() {
        QuizFixtures x = new QuizFixtures();
        check.due("clearBuffer()", x.clearBuffer(), 0);
        check.due("and again", x.clearBuffer(), 0);
        check.due("the state", x.digest(), new QuizFixtures().digest());
    }

    @Says({"Clears the buffer.", "Returns the length that it had."})
    static void promise11_returns60OfAFullBuffer() {
        QuizFixtures x = holding(Edges.FULL_AND_COMPLETE);
        check.due("clearBuffer()", x.clearBuffer(), 60);
        edges.alike("behind clearBuffer", x, Edges.staged(4));
    }

    @Says("Clears the buffer.")
    static void promise11_savesNoState() {
        QuizFixtures x = new QuizFixtures();
        x.append('0');
        x.clearBuffer();
        check.due("count(9)", x.count(9), 0);
        QuizFixtures six = Edges.inTheMidst();
        six.clearBuffer();
        check.due("undo()", six.undo(), 5);
        check.due("the buffer stays empty", six.clearBuffer(), 0);
    }

    @Says("Clears the buffer.")
    static void promise11_leavesNothingForALaterText() {
        QuizFixtures x = holding("3=99:99;x");
        x.clearBuffer();
        Check.write(x, "3=");
        check.due("firstError()", x.firstError(), 2);
        Check.write(x, "w1");
        check.due("report()", x.report(), 1);
        check.due("one result", x.match(3, 8), 2);
    }

    // ---- firstError

    private static void errorAt(String text, int due) {
        QuizFixtures x = holding(text);
        check.looks("firstError of " + text, x, due, () -> x.firstError());
    }

    @Says("the length of the buffer if there is none.")
    static void promise12_returns0OfAnEmptyBuffer() {
        errorAt("", 0);
        check.due("of a new object", new QuizFixtures().firstError(), 0);
    }

    @Says("the length of the buffer if there is none.")
    static void promise12_returns60OfAFullBufferWithoutAnError() {
        errorAt(Edges.FULL_AND_COMPLETE, 60);
        errorAt(Edges.FULL_WITH_A_SCORE_AT_ITS_END, 60);
        errorAt(Edges.TWELVE_PARTS + ";", 60);
    }

    @Says("Finds the first syntax error of the buffer.")
    static void promise12_answersTheSameAgain() {
        QuizFixtures full = holding(Edges.TWELVE_PARTS + "x");
        QuizFixtures cut = holding("0=w1;1=12:1");
        for (int time = 0; time < 4; time++) {
            check.due("of a full buffer", full.firstError(), 59);
            check.due("of a short one", cut.firstError(), 11);
        }
    }

    @Says("Returns the index of the first character that is a syntax error")
    static void promise12_anErrorAtTheFirstAndAtTheLastCharacter() {
        errorAt("x", 0);
        errorAt(";" + Edges.TWELVE_PARTS, 0);
        errorAt(Edges.TWELVE_PARTS + ":", 59);
        errorAt("~" + Edges.TWELVE_PARTS.substring(1) + "~", 0);
    }

    @Says("Returns the index of the first character that is a syntax error")
    static void promise12_theFirstOfSeveralErrors() {
        errorAt("0=1x2;;=", 3);
        errorAt("28=100:w", 1);
        errorAt("0=w3;0=w0", 3);
    }

    @Says({"The buffer is read from left to right;",
        "a character is a syntax error if no results as a text, of any length,",
        "begin with the characters before it and this character."})
    static void promise12_aTextMayGoOnBeyond60Characters() {
        errorAt("10=10:10;11=11:11;12=12:12;13=13:13;14=14:14;15=15:15;16=16:", 60);
        errorAt("10=10:10;11=11:11;12=12:12;13=13:13;14=14:14;15=15:15;26=1:2", 60);
        errorAt("10=10:10;11=11:11;12=12:12;13=13:13;14=14:14;15=15:15;0=0:0;", 60);
    }

    @Says("each the number of a match, 0 to 27, without a leading zero")
    static void promise12_matchNumbers0To27() {
        for (int match = 0; match <= 110; match++) {
            String text = match + "=w1";
            errorAt(text, match <= 27 ? text.length() : match <= 99 ? 1 : 2);
        }
        errorAt("280=w1", 1);
        errorAt("270=w1", 2);
    }

    @Says("each the number of a match, 0 to 27, without a leading zero")
    static void promise12_matchNumbersAreNotOfTheLeagueAsItIs() {
        QuizFixtures x = Edges.staged(3);
        Check.write(x, "27=w1");
        check.due("of 3 teams", x.firstError(), 5);
    }

    @Says("a score, 0 to 99, without a leading zero")
    static void promise12_scores0To99() {
        for (int score = 0; score <= 110; score++) {
            String first = "0=" + score + ":7";
            errorAt(first, score <= 99 ? first.length() : 4);
            String second = "0=7:" + score;
            errorAt(second, score <= 99 ? second.length() : 6);
        }
        errorAt("0=999:0", 4);
    }

    @Says("without a leading zero")
    static void promise12_leadingZeros() {
        for (int digit = 0; digit <= 9; digit++) {
            errorAt("0" + digit + "=w1", 1);
            errorAt("0=0" + digit + ":0", 3);
            errorAt("0=0:0" + digit, 5);
        }
    }

    @Says("or \"w\" and 1 or 2: a walkover of the first or of the second team.")
    static void promise12_walkovers1And2() {
        errorAt("0=w0", 3);
        errorAt("0=w1", 4);
        errorAt("0=w2", 4);
        errorAt("0=w3", 3);
        errorAt("0=w12", 4);
        errorAt("0=W1", 2);
    }

    @Says("Results as a text are one or more parts with \";\" between them")
    static void promise12_eachCharacterBehindEachBeginning() {
        String digits = "0123456789";
        String[][] goesOn = {{"", digits}, {"0", "="}, {"1", digits + "="}, {"2", "01234567="}, {"3", "="}, {"9", "="},
            {"10", "="}, {"27", "="}, {"0=", digits + "w"}, {"0=0", ":"}, {"0=5", digits + ":"}, {"0=99", ":"},
            {"0=1:", digits}, {"0=1:0", ";"}, {"0=1:9", digits + ";"}, {"0=1:10", ";"}, {"0=w", "12"}, {"0=w1", ";"},
            {"0=w2", ";"}, {"0=w2;", digits}, {"0=0:0;", digits}, {"0=0:0;0", "="}, {"0=w1;2", "01234567="}};
        for (String[] row : goesOn) {
            for (char code = 33; code <= 126; code++) {
                errorAt(row[0] + code, row[0].length() + (row[1].indexOf(code) >= 0 ? 1 : 0));
            }
        }
    }

    @Says("Finds the first syntax error of the buffer.")
    static void promise12_changesNothingForReport() {
        QuizFixtures x = holding("0=w1;");
        x.firstError();
        x.append('1');
        x.firstError();
        Check.write(x, "=7:8");
        x.firstError();
        check.due("saved states", x.count(9), 2);
        check.due("report()", x.report(), 2);
        check.due("scores", x.match(1, 6) * 100 + x.match(1, 7), 708);
    }

    // ---- report

    private static void reportRefused(String text, Class<? extends RuntimeException> kind) {
        edges.refused("report of " + text, () -> Edges.withText(text), kind, x -> x.report());
        QuizFixtures x = Edges.withText(text);
        check.dueThrown("report of " + text, kind, () -> x.report());
        check.due("the buffer stays", x.clearBuffer(), text.length());
    }

    @Says("Throws `IllegalArgumentException` if the buffer is not complete results as a text")
    static void promise13_refusesAnEmptyBuffer() {
        reportRefused("", Edges.BAD);
    }

    @Says("Throws `IllegalArgumentException` if the buffer is not complete results as a text")
    static void promise13_refusesATextThatBreaksOffAnywhere() {
        String text = "0=12:3;1=w2";
        for (int length = 0; length < text.length(); length++) {
            if (length != "0=12:3".length()) {
                reportRefused(text.substring(0, length), Edges.BAD);
            }
        }
        check.due("the whole", Edges.withText(text).report(), 2);
    }

    @Says("Throws `IllegalArgumentException` if the buffer is not complete results as a text")
    static void promise13_refusesAnErrorAtTheLastCharacterOfAFullBuffer() {
        reportRefused(Edges.TWELVE_PARTS + ";", Edges.BAD);
        reportRefused(Edges.TWELVE_PARTS + "x", Edges.BAD);
    }

    @Says({"Throws `IllegalStateException` if a match is not there, or has no venue", "all or none"})
    static void promise13_refusesAMatchThatIsNotThere() {
        reportRefused("6=w1", Edges.NOT_NOW);
        reportRefused("27=0:0", Edges.NOT_NOW);
        reportRefused("0=0:0;6=w1", Edges.NOT_NOW);
        reportRefused("6=w1;0=0:0", Edges.NOT_NOW);
        check.due("the last one that is there", holding("5=w1").report(), 1);
    }

    @Says({"Throws `IllegalStateException` if a match is not there, or has no venue", "all or none"})
    static void promise13_refusesAMatchWithoutAVenue() {
        reportRefused("5=w1", Edges.NOT_NOW);
        reportRefused("0=0:0;1=1:1;5=1:1", Edges.NOT_NOW);
        reportRefused("5=1:1;0=0:0", Edges.NOT_NOW);
        QuizFixtures x = new QuizFixtures();
        Check.write(x, "0=1:1");
        check.refuses("never staged", x, Edges.NOT_NOW, () -> x.report());
    }

    @Says("If several exceptions apply, the one that is named first in the throws clause is thrown.")
    static void promise13_anIncompleteTextIsToldAheadOfAMatchThatIsNotThere() {
        reportRefused("6=w1;", Edges.BAD);
        reportRefused("5=w1;0=1", Edges.BAD);
        reportRefused("6=w1;28=w1", Edges.BAD);
        reportRefused("5=1:1;x", Edges.BAD);
    }

    @Says({"Gives the results in the buffer, one after the other, all or none, and clears the buffer.",
        "Undoable, as one call."})
    static void promise13_aFullBufferOfTwelveParts() {
        QuizFixtures x = holding(Edges.FULL_AND_COMPLETE);
        check.due("report()", x.report(), 6);
        edges.properties(x, 8, 3, 3, 3, 3, 3, 3);
        check.due("clearBuffer()", x.clearBuffer(), 0);
        check.due("undo()", x.undo(), 2);
        edges.properties(x, 8, 0, 0, 0, 0, 0, 0);
        check.due("the buffer stays empty", x.clearBuffer(), 0);
        QuizFixtures y = holding(Edges.FULL_WITH_A_SCORE_AT_ITS_END);
        check.due("report()", y.report(), 6);
        edges.properties(y, 8, 3, 3, 3, 3, 3, 1);
        check.due("the last scores", y.match(5, 6) * 100 + y.match(5, 7), 706);
    }

    @Says({"Gives the results in the buffer, one after the other, all or none, and clears the buffer.",
        "Undoable, as one call."})
    static void promise13_givesNothingOfAnEarlierText() {
        QuizFixtures x = holding("0=w1;1=2:3;2=w2");
        x.firstError();
        x.clearBuffer();
        Check.write(x, "5=1:1");
        check.due("report() behind clearBuffer", x.report(), 1);
        edges.properties(x, 8, 0, 0, 0, 0, 0, 1);
        Check.write(x, "4=w1;3=w1");
        check.due("report() behind report", x.report(), 3);
        x.undo();
        Check.write(x, "2=0:0");
        check.due("report() behind undo", x.report(), 2);
        edges.properties(x, 8, 0, 0, 1, 0, 0, 1);
    }

    @Says({"Gives the results in the buffer, one after the other, all or none, and clears the buffer.",
        "Undoable, as one call."})
    static void promise13_theShortestAndTheLongestParts() {
        QuizFixtures x = Edges.staged(8);
        Check.write(x, "0=w1;0=0:0;27=99:99;26=0:99;25=99:0;27=98:97");
        check.due("report()", x.report(), 4);
        check.due("match 0", x.match(0, 8) * 10000 + x.match(0, 6) * 100 + x.match(0, 7), 10000);
        check.due("match 25", x.match(25, 6) * 100 + x.match(25, 7), 9900);
        check.due("match 26", x.match(26, 6) * 100 + x.match(26, 7), 99);
        check.due("match 27", x.match(27, 6) * 100 + x.match(27, 7), 9897);
    }

    @Says({"Gives the results in the buffer, one after the other, all or none, and clears the buffer.",
        "Undoable, as one call."})
    static void promise13_theLastOfSeveralForOneMatchStands() {
        QuizFixtures x = holding("0=1:2;0=w1;0=w2;0=3:4");
        check.due("report()", x.report(), 1);
        check.due("the kind", x.match(0, 8), 1);
        check.due("the scores", x.match(0, 6) * 100 + x.match(0, 7), 304);
        QuizFixtures y = holding("0=3:4;0=w2");
        check.due("report()", y.report(), 1);
        check.due("the kind", y.match(0, 8), 3);
        check.due("the scores", y.match(0, 6) * 100 + y.match(0, 7), 2000);
    }

    @Says("Returns how many matches have a result then.")
    static void promise13_countsTheResultsThatWereThere() {
        QuizFixtures x = Edges.staged(4);
        x.score(4, 1, 1);
        x.walkover(5, true);
        Check.write(x, "5=2:2");
        check.due("one in place of another", x.report(), 2);
        Check.write(x, "0=w2");
        check.due("one more", x.report(), 3);
        check.due("the other stays", x.match(4, 8), 1);
    }

    @Says({"Gives the results in the buffer, one after the other, all or none, and clears the buffer.",
        "Undoable, as one call."})
    static void promise13_isUndoneAsOneCall() {
        QuizFixtures x = Edges.staged(5);
        x.score(0, 9, 9);
        long before = x.digest();
        Check.write(x, "0=w1;1=1:1;0=w2;9=0:0");
        check.due("report()", x.report(), 3);
        check.due("saved states", x.count(9), 4);
        check.due("undo()", x.undo(), 3);
        check.due("the state from before", x.digest(), before);
    }
}
