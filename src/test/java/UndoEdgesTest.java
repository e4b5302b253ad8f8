import java.util.function.Consumer;

/** The edges of the promise 14: undo. */
public final class UndoEdgesTest {
    private static final Check check = new Check("UndoEdgesTest");
    private static final Edges edges = new Edges(check);

    public static void main(String[] args) {
        check.runTestsOf(UndoEdgesTest.class);
        check.end();
    }

    /** A new object whose setting 2 was set to 1, 2, .. up to a value, each by a call of its own. */
    private static QuizFixtures setUpTo(int value) {
        QuizFixtures x = new QuizFixtures();
        for (int each = 1; each <= value; each++) {
            x.set(2, each);
        }
        return x;
    }

    private static void goesBack(QuizFixtures x, int... values) {
        for (int at = 0; at < values.length; at++) {
            check.due("undo()", x.undo(), values.length - 1 - at);
            check.due("setting(2)", x.setting(2), values[at]);
        }
        check.refuses("none is left", x, Edges.NOT_NOW, () -> x.undo());
    }

    @Says("Throws `IllegalStateException` if there is none")
    static void promise14_noSavedState() {
        edges.refused("undo()", QuizFixtures::new, Edges.NOT_NOW, x -> x.undo());
    }

    @Says({"Restores the latest saved state, and drops it.", "Returns how many saved states are left."})
    static void promise14_oneSavedState() {
        goesBack(setUpTo(1), 20);
    }

    @Says("At most 6 states are saved; the oldest one is dropped first.")
    static void promise14_sixSavedStates() {
        check.due("count(9)", setUpTo(6).count(9), 6);
        goesBack(setUpTo(6), 5, 4, 3, 2, 1, 20);
    }

    @Says("At most 6 states are saved; the oldest one is dropped first.")
    static void promise14_theSeventhDropsTheOldest() {
        check.due("count(9)", setUpTo(7).count(9), 6);
        goesBack(setUpTo(7), 6, 5, 4, 3, 2, 1);
    }

    @Says("At most 6 states are saved; the oldest one is dropped first.")
    static void promise14_thirteenDropSeven() {
        goesBack(setUpTo(13), 12, 11, 10, 9, 8, 7);
    }

    @Says("Restores the latest saved state, and drops it.")
    static void promise14_savesAgainBehindAnUndo() {
        QuizFixtures x = setUpTo(8);
        check.due("undo()", x.undo(), 5);
        check.due("undo()", x.undo(), 4);
        x.set(2, 50);
        check.due("count(9)", x.count(9), 5);
        x.set(2, 49);
        check.due("count(9)", x.count(9), 6);
        x.set(2, 48);
        check.due("count(9)", x.count(9), 6);
        goesBack(x, 49, 50, 6, 5, 4, 3);
    }

    @Says("Restores the latest saved state, and drops it.")
    static void promise14_isNotUndoneItself() {
        QuizFixtures x = setUpTo(3);
        x.undo();
        goesBack(x, 1, 20);
    }

    @Says("does not throw an exception saves the state from before it (also if it changes nothing)")
    static void promise14_eachUndoableMethodSavesThoughItChangesNothing() {
        QuizFixtures x = Edges.staged(4);
        x.score(0, 3, 3);
        x.walkover(1, true);
        savesOne("begin", new QuizFixtures(), y -> y.begin(4));
        savesOne("close", x, y -> y.close(0, 0));
        savesOne("away", x, y -> y.away(5, 0));
        savesOne("stage", Edges.staged(4), y -> y.stage());
        savesOne("score", x, y -> y.score(0, 3, 3));
        savesOne("walkover", x, y -> y.walkover(1, true));
        savesOne("annul", x, y -> y.annul(2));
        savesOne("set", x, y -> y.set(0, 2));
        savesOne("report", x, y -> {
            Check.write(y, "0=3:3;1=w2");
            y.report();
        });
    }

    /** One state is saved then, and it is the state that is there. */
    private static void savesOne(String what, QuizFixtures x, Consumer<QuizFixtures> call) {
        int saved = x.count(9);
        long before = x.digest();
        call.accept(x);
        check.due(what + ": count(9)", x.count(9), saved + 1);
        check.due(what + ": undo()", x.undo(), saved);
        check.due(what + ": the state", x.digest(), before);
    }

    @Says("A call that throws an exception changes nothing.")
    static void promise14_aRefusedCallSavesNothing() {
        QuizFixtures x = setUpTo(6);
        check.dueThrown("begin", Edges.BAD, () -> x.begin(9));
        check.dueThrown("close", Edges.NO_SUCH, () -> x.close(6, 0));
        check.dueThrown("away", Edges.BAD, () -> x.away(0, 128));
        check.dueThrown("score", Edges.NOT_NOW, () -> x.score(0, 0, 0));
        check.dueThrown("walkover", Edges.NOT_NOW, () -> x.walkover(0, false));
        check.dueThrown("annul", Edges.NO_SUCH, () -> x.annul(6));
        check.dueThrown("set", Edges.BAD, () -> x.set(0, 0));
        check.dueThrown("report", Edges.BAD, () -> x.report());
        goesBack(x, 5, 4, 3, 2, 1, 20);
    }

    @Says("Each method that is marked \"undoable\" and")
    static void promise14_otherMethodsSaveNothing() {
        QuizFixtures x = setUpTo(6);
        x.append('0');
        x.firstError();
        x.clearBuffer();
        x.match(0, 8);
        x.team(0, 7);
        x.table(0);
        x.busy(0, 0);
        x.count(9);
        x.setting(0);
        x.meeting(0, 1);
        x.bestPlace(0);
        x.isSure(0);
        x.ifMissing(0);
        x.closeness();
        x.digest();
        goesBack(x, 5, 4, 3, 2, 1, 20);
    }

    @Says("all, but the buffer and the saved states.")
    static void promise14_theBufferIsNotRestored() {
        QuizFixtures x = new QuizFixtures();
        Check.write(x, "0=w");
        x.set(0, 1);
        x.append('3');
        x.undo();
        check.due("an append stays", x.firstError(), 3);
        x.set(0, 1);
        x.clearBuffer();
        x.undo();
        check.due("a clearing stays", x.clearBuffer(), 0);
        QuizFixtures full = new QuizFixtures();
        full.set(0, 1);
        Check.write(full, Edges.FULL_AND_COMPLETE);
        full.undo();
        check.due("a full buffer stays", full.clearBuffer(), 60);
    }

    @Says("all, but the buffer and the saved states.")
    static void promise14_restoresEachPartOfTheState() {
        QuizFixtures x = Edges.staged(8);
        x.close(0, 64);
        x.away(0, 1);
        x.score(27, 98, 99);
        x.walkover(0, true);
        long before = x.digest();
        x.begin(3);
        check.due("undo()", x.undo(), 5);
        check.due("teams", x.count(0), 8);
        check.due("the last scores", x.match(27, 6) * 100 + x.match(27, 7), 9899);
        check.due("the walkover", x.match(0, 8), 3);
        check.due("the venue of the last match", x.match(27, 3), Edges.staged(8).match(27, 3));
        check.due("the setter of the last match", x.match(27, 4), Edges.staged(8).match(27, 4));
        check.due("the closed venue", x.close(0, 64), 64);
        check.due("the state with as many saved ones", x.digest(), before);
        check.due("the setter that is away", x.away(0, 0), 1);
    }

    @Says("all, but the buffer and the saved states.")
    static void promise14_restoresTheLastMatchOf8Teams() {
        QuizFixtures x = Edges.staged(8);
        int venue = x.match(27, 3);
        int setter = x.match(27, 4);
        Edges.sendAwayAllBut(x, Edges.NONE);
        x.stage();
        check.due("it has no setter", x.match(27, 5), 2);
        x.undo();
        check.due("the venue", x.match(27, 3), venue);
        check.due("the setter", x.match(27, 4), setter);
        check.due("the reason", x.match(27, 5), 0);
        x.score(27, 98, 97);
        x.score(27, 96, 95);
        x.undo();
        check.due("the scores", x.match(27, 6) * 100 + x.match(27, 7), 9897);
        x.walkover(27, true);
        x.undo();
        check.due("the kind", x.match(27, 8), 1);
        x.begin(7);
        x.begin(8);
        x.undo();
        x.undo();
        check.due("the teams", x.match(27, 1) * 10 + x.match(27, 2), 23);
        check.due("the round", x.match(27, 0), 6);
        check.due("the scores", x.match(27, 6) * 100 + x.match(27, 7), 9897);
    }

    @Says("all, but the buffer and the saved states.")
    static void promise14_restoresReasons() {
        QuizFixtures x = new QuizFixtures();
        x.set(3, 1);
        x.stage();
        x.set(3, 9);
        x.stage();
        check.due("no reason", x.match(5, 5), 0);
        x.undo();
        check.due("the reason is back", x.match(5, 5), 2);
        x.undo();
        x.undo();
        check.due("none before it was staged", x.match(5, 5), 0);
    }

    @Says("all, but the buffer and the saved states.")
    static void promise14_restoresLeaguesOfOtherSizes() {
        QuizFixtures x = new QuizFixtures();
        for (int teams : new int[] {3, 8, 5, 7, 3}) {
            x.begin(teams);
            x.stage();
            x.undo();
        }
        int[] due = {7, 5, 8, 3, 4};
        for (int at = 0; at < due.length; at++) {
            x.undo();
            check.due("teams", x.count(0), due[at]);
            check.due("matches", x.count(2), Edges.MATCHES[due[at]]);
            check.due("rounds", x.count(1), Edges.ROUNDS[due[at]]);
            check.due("nothing is staged", x.count(3), 0);
        }
    }
}
