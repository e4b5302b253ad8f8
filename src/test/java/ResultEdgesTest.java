/** The edges of the promises 6 to 9: score, walkover, annul, set. */
public final class ResultEdgesTest {
    private static final Check check = new Check("ResultEdgesTest");
    private static final Edges edges = new Edges(check);

    public static void main(String[] args) {
        check.runTestsOf(ResultEdgesTest.class);
        check.end();
    }

    /** A league that some call is refused on for want of a venue, and how it came to that. */
    private interface WithoutVenue {
        void tell(String how, QuizFixtures x, int match);
    }

    private static void eachWayToHaveNoVenue(WithoutVenue test) {
        test.tell("never staged", new QuizFixtures(), 0);
        QuizFixtures begun = Edges.staged(4);
        begun.begin(4);
        test.tell("begun anew", begun, 5);
        QuizFixtures closed = Edges.staged(4);
        Edges.closeAllBut(closed, Edges.NONE);
        closed.stage();
        test.tell("no venue", closed, 0);
        QuizFixtures away = Edges.staged(4);
        Edges.sendAwayAllBut(away, Edges.NONE);
        away.stage();
        test.tell("no setter", away, 5);
        QuizFixtures annulled = Edges.staged(4);
        annulled.score(1, 1, 1);
        Edges.closeAllBut(annulled, Edges.NONE);
        annulled.annul(1);
        annulled.stage();
        test.tell("annulled and staged", annulled, 1);
    }

    // ---- score

    @Says({"`match`: its number", "Throws `IndexOutOfBoundsException` if there is no such match"})
    static void promise06_takesTheFirstAndTheLastMatch() {
        for (int teams = 3; teams <= 8; teams++) {
            int last = Edges.MATCHES[teams] - 1;
            int count = teams;
            check.due("the first", Edges.staged(teams).score(0, 1, 0), 2);
            check.due("the last", Edges.staged(teams).score(last, 1, 0), 2);
            edges.refused("one more", () -> Edges.staged(count), Edges.NO_SUCH, x -> x.score(last + 1, 1, 0));
            edges.refused("one less", () -> Edges.staged(count), Edges.NO_SUCH, x -> x.score(-1, 1, 0));
        }
    }

    @Says("Throws `IndexOutOfBoundsException` if there is no such match")
    static void promise06_refusesMatchesFarOutside() {
        for (int match : Edges.FAR_OUTSIDE) {
            edges.refused("score(" + match + ", 1, 0)", Edges.NO_SUCH, x -> x.score(match, 1, 0));
        }
    }

    @Says({"`first`: the score of the first team, 0 to 99", "`second`: the score of the second team, 0 to 99"})
    static void promise06_takesScores0And99() {
        QuizFixtures x = Edges.staged(4);
        check.due("99 to 0", x.score(0, 99, 0), 2);
        check.due("its first score", x.match(0, 6), 99);
        check.due("its second score", x.match(0, 7), 0);
        check.due("0 to 99", x.score(0, 0, 99), 0);
        check.due("its first score", x.match(0, 6), 0);
        check.due("its second score", x.match(0, 7), 99);
        check.due("99 to 98", x.score(0, 99, 98), 2);
        check.due("98 to 99", x.score(0, 98, 99), 0);
    }

    @Says("Throws `IllegalArgumentException` if a score is out of range")
    static void promise06_refusesScoresOutside() {
        for (int bad : new int[] {-1, 100, 256, Integer.MIN_VALUE, Integer.MAX_VALUE}) {
            edges.refused("score(0, " + bad + ", 0)", Edges.BAD, x -> x.score(0, bad, 0));
            edges.refused("score(0, 0, " + bad + ")", Edges.BAD, x -> x.score(0, 0, bad));
            edges.refused("score(0, " + bad + ", " + bad + ")", Edges.BAD, x -> x.score(0, bad, bad));
        }
    }

    @Says("Throws `IllegalStateException` if the match has no venue")
    static void promise06_refusesAMatchWithoutAVenue() {
        eachWayToHaveNoVenue((how, x, match) -> check.refuses(how, x, Edges.NOT_NOW, () -> x.score(match, 1, 0)));
        edges.refused("the only one without", Edges.NOT_NOW, x -> x.score(5, 1, 0));
    }

    @Says("If several exceptions apply, the one that is named first in the throws clause is thrown.")
    static void promise06_noSuchMatchIsToldAheadOfABadScore() {
        edges.refused("score(6, 100, 0)", Edges.NO_SUCH, x -> x.score(6, 100, 0));
        edges.refused("score(-1, 0, -1)", Edges.NO_SUCH, x -> x.score(-1, 0, -1));
        edges.refused("score(6, -1, 0), not staged", QuizFixtures::new, Edges.NO_SUCH, x -> x.score(6, -1, 0));
    }

    @Says("If several exceptions apply, the one that is named first in the throws clause is thrown.")
    static void promise06_aBadScoreIsToldAheadOfNoVenue() {
        edges.refused("score(5, 100, 0)", Edges.BAD, x -> x.score(5, 100, 0));
        edges.refused("score(5, 0, -1)", Edges.BAD, x -> x.score(5, 0, -1));
        edges.refused("score(0, 0, 100), not staged", QuizFixtures::new, Edges.BAD, x -> x.score(0, 0, 100));
    }

    @Says({"Gives a match a result by scores, in place of the one that it had. Undoable.",
        "Returns the points of the first team of all matches then."})
    static void promise06_comesInPlaceOfTheResultThatItHad() {
        QuizFixtures x = Edges.staged(4);
        check.due("won", x.score(0, 1, 0), 2);
        check.due("in place of it, lost", x.score(0, 0, 1), 0);
        check.due("in place of it, a walkover", x.walkover(0, false), -1);
        check.due("in place of the walkover, equal", x.score(0, 3, 3), 1);
        check.due("results", x.count(4), 1);
        check.due("walkovers", x.count(5), 0);
        check.due("the kind", x.match(0, 8), 1);
    }

    @Says("Returns the points of the first team of all matches then.")
    static void promise06_returnsThePointsOfAllMatches() {
        QuizFixtures x = Edges.staged(4);
        check.due("3 - 0", x.score(0, 1, 0), 2);
        check.due("3 - 1", x.score(2, 1, 1), 3);
        check.due("3 - 2", x.score(4, 1, 0), 5);
        check.due("0 - 1", x.score(5, 1, 0), 2);
        check.due("2 - 0, of the first team, not the second", x.score(3, 0, 1), 0);
    }

    @Says("Who has more is given setting 0 points, with equal scores both are given setting 1")
    static void promise06_oneMoreIsMoreAndNoneMoreIsEqual() {
        for (int score : new int[] {0, 1, 98, 99}) {
            QuizFixtures x = Edges.staged(4);
            check.due(score + " to " + score, x.score(0, score, score), 1);
            edges.teams(x, 0, 1, 0, 0, 1);
            edges.teams(x, 3, 1, 0, 0, 1);
        }
        QuizFixtures x = Edges.staged(4);
        check.due("1 to 0", x.score(0, 1, 0), 2);
        edges.teams(x, 0, 0, 0, 0, 2);
        edges.teams(x, 2, 0, 0, 0, 1);
    }

    @Says("Who has more is given setting 0 points, with equal scores both are given setting 1")
    static void promise06_pointsByTheLeastAndTheGreatestSettings() {
        QuizFixtures x = Edges.staged(4);
        x.set(0, 5);
        x.set(1, 3);
        check.due("5 for winning", x.score(0, 1, 0), 5);
        check.due("3 for equal scores", x.score(0, 1, 1), 3);
        x.set(0, 1);
        x.set(1, 0);
        check.due("0 for equal scores", x.score(0, 2, 2), 0);
        check.due("1 for winning", x.score(0, 1, 0), 1);
    }

    @Says("A match that has a venue can get a result")
    static void promise06_aVenueThatWasClosedSinceIsEnough() {
        QuizFixtures x = Edges.staged(4);
        Edges.closeAllBut(x, Edges.NONE);
        Edges.sendAwayAllBut(x, Edges.NONE);
        check.due("score(5, 1, 0)", x.score(5, 1, 0), 2);
    }

    @Says("Gives a match a result by scores, in place of the one that it had. Undoable.")
    static void promise06_isUndoable() {
        edges.undoable("a score", () -> Edges.staged(5), x -> x.score(9, 99, 99));
        QuizFixtures x = Edges.staged(4);
        x.score(0, 7, 8);
        x.score(0, 7, 8);
        check.due("the same is saved, too", x.count(9), 4);
        x.walkover(0, true);
        x.undo();
        check.due("the score is back", x.match(0, 6) * 100 + x.match(0, 7), 708);
    }

    // ---- walkover

    @Says({"`match`: its number", "Throws `IndexOutOfBoundsException` if there is no such match"})
    static void promise07_takesTheFirstAndTheLastMatch() {
        for (int teams = 3; teams <= 8; teams++) {
            int last = Edges.MATCHES[teams] - 1;
            int count = teams;
            check.due("the first", Edges.staged(teams).walkover(0, false), -1);
            check.due("the last", Edges.staged(teams).walkover(last, true), -1);
            edges.refused("one more", () -> Edges.staged(count), Edges.NO_SUCH, x -> x.walkover(last + 1, true));
            edges.refused("one less", () -> Edges.staged(count), Edges.NO_SUCH, x -> x.walkover(-1, false));
        }
    }

    @Says("Throws `IndexOutOfBoundsException` if there is no such match")
    static void promise07_refusesMatchesFarOutside() {
        for (int match : Edges.FAR_OUTSIDE) {
            edges.refused("walkover(" + match + ", false)", Edges.NO_SUCH, x -> x.walkover(match, false));
            edges.refused("walkover(" + match + ", true)", Edges.NO_SUCH, x -> x.walkover(match, true));
        }
    }

    @Says("Throws `IllegalStateException` if the match has no venue")
    static void promise07_refusesAMatchWithoutAVenue() {
        eachWayToHaveNoVenue((how, x, match) -> {
            check.refuses(how, x, Edges.NOT_NOW, () -> x.walkover(match, false));
            check.refuses(how, x, Edges.NOT_NOW, () -> x.walkover(match, true));
        });
        edges.refused("the only one without", Edges.NOT_NOW, x -> x.walkover(5, true));
    }

    @Says("If several exceptions apply, the one that is named first in the throws clause is thrown.")
    static void promise07_noSuchMatchIsToldThoughNothingIsStaged() {
        edges.refused("walkover(6, true)", QuizFixtures::new, Edges.NO_SUCH, x -> x.walkover(6, true));
        edges.refused("walkover(-1, true)", QuizFixtures::new, Edges.NO_SUCH, x -> x.walkover(-1, true));
    }

    @Says({"`isSecond`: whether the second team gives it, otherwise the first one",
        "Returns the points of the team that gives it, of all matches then."})
    static void promise07_eitherTeamGivesIt() {
        QuizFixtures x = Edges.staged(4);
        check.due("3 gives it to 0", x.walkover(0, false), -1);
        edges.teams(x, 0, 2, 0, 0, -1);
        edges.teams(x, 6, 0, 0, 0, 1);
        check.due("in place of it, 0 gives it to 3", x.walkover(0, true), -1);
        edges.teams(x, 0, -1, 0, 0, 2);
        edges.teams(x, 6, 1, 0, 0, 0);
        check.due("3 gives another one to 1", x.walkover(2, false), 1);
    }

    @Says("then the other team has won by setting 2, as it is, to 0.")
    static void promise07_theLeastAndTheGreatestScoreOfAWalkover() {
        QuizFixtures x = Edges.staged(4);
        x.walkover(0, false);
        x.walkover(1, true);
        edges.properties(x, 6, 0, 20, -1, -1, -1, -1);
        edges.properties(x, 7, 20, 0, -1, -1, -1, -1);
        x.set(2, 1);
        edges.properties(x, 6, 0, 1, -1, -1, -1, -1);
        edges.properties(x, 7, 1, 0, -1, -1, -1, -1);
        edges.teams(x, 2, 1, 1, 0, 0);
        x.set(2, 50);
        edges.properties(x, 6, 0, 50, -1, -1, -1, -1);
        edges.properties(x, 7, 50, 0, -1, -1, -1, -1);
        edges.teams(x, 4, 50, 50, 0, 0);
        edges.teams(x, 5, 0, 0, 50, 50);
    }

    @Says("the one who gave a walkover loses 1 point besides.")
    static void promise07_aTeamCanFallTo7PointsBelow0() {
        QuizFixtures x = Edges.staged(8);
        for (int other = 1; other < 8; other++) {
            int match = x.meeting(0, other);
            check.due("walkover " + other, x.walkover(match, x.match(match, 2) == 0), -other);
        }
        check.due("team(0, 0)", x.team(0, 0), -7);
        check.due("team(0, 6)", x.team(0, 6), 7);
        check.due("team(0, 5)", x.team(0, 5), 140);
        check.due("team(0, 7)", x.team(0, 7), 7);
        check.due("points of all", x.count(6), 7);
    }

    @Says("Gives a match a walkover as its result, in place of the one that it had. Undoable.")
    static void promise07_comesInPlaceOfTheResultThatItHad() {
        QuizFixtures x = Edges.staged(4);
        x.score(0, 30, 10);
        check.due("in place of a score", x.walkover(0, false), -1);
        check.due("the same again", x.walkover(0, false), -1);
        check.due("results", x.count(4), 1);
        check.due("walkovers", x.count(5), 1);
        edges.teams(x, 4, 20, 0, 0, 0);
        edges.teams(x, 5, 0, 0, 0, 20);
    }

    @Says("Gives a match a walkover as its result, in place of the one that it had. Undoable.")
    static void promise07_isUndoable() {
        edges.undoable("by the first team", () -> Edges.staged(5), x -> x.walkover(0, false));
        edges.undoable("by the second team", () -> Edges.staged(5), x -> x.walkover(9, true));
        QuizFixtures x = Edges.staged(4);
        x.walkover(0, true);
        x.walkover(0, true);
        check.due("the same is saved, too", x.count(9), 4);
        x.walkover(0, false);
        x.undo();
        check.due("the other one is back", x.match(0, 8), 3);
    }

    // ---- annul

    @Says({"`match`: its number", "Throws `IndexOutOfBoundsException` if there is no such match"})
    static void promise08_takesTheFirstAndTheLastMatch() {
        for (int teams = 3; teams <= 8; teams++) {
            int last = Edges.MATCHES[teams] - 1;
            int count = teams;
            QuizFixtures x = Edges.staged(teams);
            x.score(0, 1, 1);
            x.walkover(last, false);
            check.due("the last", x.annul(last), 1);
            check.due("the first", x.annul(0), 1);
            edges.refused("one more", () -> Edges.staged(count), Edges.NO_SUCH, y -> y.annul(last + 1));
            edges.refused("one less", () -> Edges.staged(count), Edges.NO_SUCH, y -> y.annul(-1));
        }
    }

    @Says("Throws `IndexOutOfBoundsException` if there is no such match")
    static void promise08_refusesMatchesFarOutside() {
        for (int match : Edges.FAR_OUTSIDE) {
            edges.refused("annul(" + match + ")", Edges.NO_SUCH, x -> x.annul(match));
        }
    }

    @Says("Returns 1 if it had one, otherwise 0.")
    static void promise08_returns0WithoutAResult() {
        QuizFixtures x = new QuizFixtures();
        check.due("never staged", x.annul(0), 0);
        x.stage();
        check.due("no result", x.annul(0), 0);
        x.score(0, 0, 0);
        check.due("by 0 to 0", x.annul(0), 1);
        check.due("annulled already", x.annul(0), 0);
        x.walkover(0, false);
        check.due("a walkover of the first team", x.annul(0), 1);
        x.walkover(0, true);
        check.due("a walkover of the second team", x.annul(0), 1);
    }

    @Says("Takes the result of a match back (its venue and setter stay). Undoable.")
    static void promise08_venueAndSetterStayThoughClosedAndAway() {
        QuizFixtures x = Edges.staged(4);
        x.score(4, 1, 0);
        Edges.closeAllBut(x, Edges.NONE);
        Edges.sendAwayAllBut(x, Edges.NONE);
        check.due("annul(4)", x.annul(4), 1);
        check.due("venue", x.match(4, 3), 4);
        check.due("setter", x.match(4, 4), 4);
        check.due("a new result", x.score(4, 0, 1), 0);
        x.annul(4);
        x.stage();
        check.due("until it is staged", x.match(4, 3), Edges.NONE);
    }

    @Says("Takes the result of a match back (its venue and setter stay). Undoable.")
    static void promise08_leavesNothingOfTheResult() {
        QuizFixtures x = Edges.staged(4);
        x.score(0, 99, 1);
        x.walkover(1, true);
        x.annul(0);
        x.annul(1);
        for (int what = 0; what <= 6; what++) {
            edges.teams(x, what, 0, 0, 0, 0);
        }
        edges.teams(x, 8, 3, 3, 3, 3);
        edges.properties(x, 6, -1, -1, -1, -1, -1, -1);
        edges.properties(x, 7, -1, -1, -1, -1, -1, -1);
    }

    @Says({"Takes the result of a match back (its venue and setter stay). Undoable.",
        "does not throw an exception saves the state from before it (also if it changes nothing)"})
    static void promise08_isUndoable() {
        edges.undoable("no result", () -> Edges.league(8), x -> x.annul(27));
        QuizFixtures x = Edges.staged(4);
        x.walkover(5, true);
        x.annul(5);
        x.undo();
        check.due("the walkover is back", x.match(5, 8), 3);
    }

    // ---- set

    private static final int[] LEAST = {1, 0, 1, 1};
    private static final int[] GREATEST = {5, 3, 50, 28};

    @Says({"`setting`: 0 to 3", "`value`: the new value", "Returns the previous value."})
    static void promise09_takesTheLeastAndTheGreatestValues() {
        int[] atFirst = {2, 1, 20, 9};
        for (int setting = 0; setting < 4; setting++) {
            QuizFixtures x = new QuizFixtures();
            int greatest = GREATEST[setting];
            check.due("the least of " + setting, x.set(setting, LEAST[setting]), atFirst[setting]);
            check.due("the greatest of " + setting, x.set(setting, greatest), LEAST[setting]);
            check.due("the same of " + setting, x.set(setting, greatest), greatest);
            for (int other = 0; other < 4; other++) {
                check.due("setting(" + other + ")", x.setting(other), other == setting ? greatest : atFirst[other]);
            }
        }
    }

    @Says("Throws `IllegalArgumentException` if value is out of range")
    static void promise09_refusesTheValuesJustOutside() {
        for (int setting = 0; setting < 4; setting++) {
            int at = setting;
            edges.refused("below the least of " + at, Edges.BAD, x -> x.set(at, LEAST[at] - 1));
            edges.refused("above the greatest of " + at, Edges.BAD, x -> x.set(at, GREATEST[at] + 1));
        }
    }

    @Says("Throws `IllegalArgumentException` if value is out of range")
    static void promise09_refusesValuesFarOutside() {
        for (int setting = 0; setting < 4; setting++) {
            int at = setting;
            for (int value : Edges.FAR_OUTSIDE) {
                edges.refused("set(" + at + ", " + value + ")", Edges.BAD, x -> x.set(at, value));
            }
        }
    }

    @Says("Throws `IndexOutOfBoundsException` if there is no such setting")
    static void promise09_refusesSettingsOutside() {
        for (int setting : new int[] {-1, 4, Integer.MIN_VALUE, Integer.MAX_VALUE}) {
            edges.refused("set(" + setting + ", 1)", Edges.NO_SUCH, x -> x.set(setting, 1));
        }
    }

    @Says("If several exceptions apply, the one that is named first in the throws clause is thrown.")
    static void promise09_noSuchSettingIsToldFirst() {
        for (int setting : new int[] {-1, 4}) {
            edges.refused("set(" + setting + ", -1)", Edges.NO_SUCH, x -> x.set(setting, -1));
            edges.refused("set(" + setting + ", 51)", Edges.NO_SUCH, x -> x.set(setting, 51));
        }
    }

    @Says("Changes a setting; points count by the settings as they are. Undoable.")
    static void promise09_pointsFollowTheSettings() {
        QuizFixtures x = Edges.staged(3);
        x.score(0, 1, 0);
        x.score(1, 1, 1);
        edges.teams(x, 0, 1, 2, 1);
        x.set(0, 1);
        edges.teams(x, 0, 1, 1, 1);
        x.set(1, 0);
        edges.teams(x, 0, 0, 1, 0);
        x.set(1, 3);
        edges.teams(x, 0, 3, 1, 3);
        edges.table(x, 0, 2, 1);
        x.set(0, 5);
        edges.table(x, 1, 0, 2);
    }

    @Says("Changes a setting; points count by the settings as they are. Undoable.")
    static void promise09_theLimitLeavesWhatIsStaged() {
        QuizFixtures x = Edges.staged(4);
        x.set(3, 1);
        check.due("count(3)", x.count(3), 6);
        check.due("count(7)", x.count(7), 2);
        edges.properties(x, 4, 1, 0, 2, 3, 4, 2);
    }

    @Says({"Changes a setting; points count by the settings as they are. Undoable.",
        "does not throw an exception saves the state from before it (also if it changes nothing)"})
    static void promise09_isUndoable() {
        for (int setting = 0; setting < 4; setting++) {
            int at = setting;
            edges.undoable("another value of " + at, () -> Edges.staged(5), x -> x.set(at, GREATEST[at]));
        }
        edges.undoable("the same value", () -> Edges.staged(5), x -> x.set(3, 9));
    }
}
