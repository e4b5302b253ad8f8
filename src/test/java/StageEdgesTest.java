/** The edges of the promise 5: stage. Of 4 teams the matches are 3 - 0, 1 - 2; 3 - 1, 2 - 0; 3 - 2, 0 - 1. */
public final class StageEdgesTest {
    private static final Check check = new Check("StageEdgesTest");
    private static final Edges edges = new Edges(check);

    public static void main(String[] args) {
        check.runTestsOf(StageEdgesTest.class);
        check.end();
    }

    private static void staging(QuizFixtures x, int due) {
        check.due("stage()", x.stage(), due);
        check.due("count(3)", x.count(3), due);
    }

    // ---- none left

    @Says("If there is no venue, it gets neither, for the reason 1;")
    static void promise05_noVenueLeft() {
        QuizFixtures x = Edges.staged(4);
        Edges.closeAllBut(x, Edges.NONE);
        staging(x, 0);
        edges.properties(x, 3, -1, -1, -1, -1, -1, -1);
        edges.properties(x, 4, -1, -1, -1, -1, -1, -1);
        edges.properties(x, 5, 1, 1, 1, 1, 1, 1);
    }

    @Says("if there is no setter, it gets neither, for the reason 2.")
    static void promise05_noSetterLeft() {
        QuizFixtures x = Edges.staged(4);
        Edges.sendAwayAllBut(x, Edges.NONE);
        staging(x, 0);
        edges.properties(x, 3, -1, -1, -1, -1, -1, -1);
        edges.properties(x, 4, -1, -1, -1, -1, -1, -1);
        edges.properties(x, 5, 2, 2, 2, 2, 2, 2);
    }

    @Says("If there is no venue, it gets neither, for the reason 1;")
    static void promise05_neitherAVenueNorASetterLeft() {
        QuizFixtures x = new QuizFixtures();
        Edges.sendAwayAllBut(x, Edges.NONE);
        Edges.closeAllBut(x, Edges.NONE);
        staging(x, 0);
        edges.properties(x, 5, 1, 1, 1, 1, 1, 1);
    }

    @Says({"To stage the matches is to go through all that have no result, by ascending numbers;",
        "the neutral venue that is not closed in the round, and that no match of the round has"})
    static void promise05_oneVenueLeftIsForTheFirstOfEachRound() {
        QuizFixtures x = new QuizFixtures();
        Edges.closeAllBut(x, 5);
        staging(x, 3);
        edges.properties(x, 3, 5, -1, 5, -1, 5, -1);
        edges.properties(x, 5, 0, 1, 0, 1, 0, 1);
    }

    @Says("the setter who may set it, is not away in the round, sets no other match of the round")
    static void promise05_oneSetterLeftIsForTheFirstOfEachRound() {
        QuizFixtures x = Edges.league(6);
        Edges.sendAwayAllBut(x, 5);
        // The first match of each round is one of the team 5, to which the setter 5 belongs.
        staging(x, 5);
        edges.properties(x, 4, -1, 5, -1, -1, 5, -1, -1, 5, -1, -1, 5, -1, -1, 5, -1);
        edges.properties(x, 5, 2, 0, 2, 2, 0, 2, 2, 0, 2, 2, 0, 2, 2, 0, 2);
    }

    @Says("if there is no setter, it gets neither, for the reason 2.")
    static void promise05_aMatchWithoutASetterLeavesItsVenueToTheNext() {
        QuizFixtures x = new QuizFixtures();
        Edges.closeAllBut(x, 5);
        Edges.sendAwayAllBut(x, 0);
        staging(x, 3);
        edges.properties(x, 3, -1, 5, 5, -1, 5, -1);
        edges.properties(x, 5, 2, 0, 0, 1, 0, 1);
    }

    @Says("why it has none, 0 if it has one or was never staged")
    static void promise05_theReasonGoesWithAVenue() {
        QuizFixtures x = new QuizFixtures();
        Edges.closeAllBut(x, Edges.NONE);
        x.stage();
        Edges.closeAllBut(x, 5);
        edges.properties(x, 5, 1, 1, 1, 1, 1, 1);
        x.stage();
        edges.properties(x, 5, 0, 1, 0, 1, 0, 1);
        Edges.sendAwayAllBut(x, Edges.NONE);
        x.stage();
        edges.properties(x, 5, 2, 2, 2, 2, 2, 2);
    }

    // ---- whose venue, whose setter

    @Says("A venue is neutral for a match if neither of both teams is at home there.")
    static void promise05_noMatchIsAtHome() {
        QuizFixtures x = new QuizFixtures();
        Edges.closeAllBut(x, 0);
        staging(x, 3);
        // The team 0 is the second one of 3 - 0 and 2 - 0 and the first one of 0 - 1.
        edges.properties(x, 3, -1, 0, 0, -1, 0, -1);
    }

    @Says("There are 6 venues, numbered from 0; the team t is at home at the venue t % 6.")
    static void promise05_theTeams6And7AreAtHomeAt0And1() {
        QuizFixtures zero = Edges.league(8);
        Edges.closeAllBut(zero, 0);
        staging(zero, 7);
        // 2 - 5, 7 - 1, 7 - 2, 7 - 3, 7 - 4, 7 - 5, 1 - 4: the first one of each round without the teams 0 and 6.
        int[] atZero = {2, 4, 8, 12, 16, 20, 26};
        QuizFixtures one = Edges.league(8);
        Edges.closeAllBut(one, 1);
        staging(one, 7);
        // 2 - 5, 2 - 0, 4 - 0, 4 - 2, 5 - 3, 6 - 4, 0 - 5: the first one of each round without the teams 1 and 7.
        int[] atOne = {2, 5, 10, 13, 17, 21, 25};
        for (int round = 0; round < 7; round++) {
            check.due("at 0 in round " + round, zero.busy(round, 0), atZero[round]);
            check.due("at 1 in round " + round, one.busy(round, 1), atOne[round]);
        }
    }

    @Says("the setter s belongs to the team s % (as many teams as there are), and may not set a match of this team.")
    static void promise05_eachSetterAloneSetsTheFirstOfEachRoundThatItsTeamIsNotIn() {
        for (int teams = 3; teams <= 8; teams++) {
            for (int setter = 0; setter < 6; setter++) {
                QuizFixtures x = Edges.league(teams);
                Edges.sendAwayAllBut(x, setter);
                x.stage();
                for (int round = 0; round < Edges.ROUNDS[teams]; round++) {
                    String what = "of " + teams + " teams, set by " + setter + " in round " + round;
                    check.due(what, x.busy(round, 6 + setter), firstWithout(x, setter % teams, round));
                }
            }
        }
    }

    private static int firstWithout(QuizFixtures x, int team, int round) {
        int matches = x.count(2);
        for (int match = 0; match < matches; match++) {
            if (x.match(match, 0) == round && x.match(match, 1) != team && x.match(match, 2) != team) {
                return match;
            }
        }
        return Edges.NONE;
    }

    @Says("the setter s belongs to the team s % (as many teams as there are), and may not set a match of this team.")
    static void promise05_of3TeamsEachHasTwoSetters() {
        QuizFixtures x = Edges.league(3);
        staging(x, 3);
        edges.properties(x, 4, 0, 1, 2);
        x.away(0, Edges.ALL_ROUNDS);
        staging(x, 3);
        edges.properties(x, 4, 3, 1, 2);
        x.away(3, Edges.ALL_ROUNDS);
        staging(x, 2);
        edges.properties(x, 5, 2, 0, 0);
    }

    // ---- fewest matches, the lowest number

    @Says("which has had fewest matches so far (of all that have it now), of several the lowest")
    static void promise05_theVenueWithFewestOfSeveralTheLowest() {
        QuizFixtures x = new QuizFixtures();
        staging(x, 6);
        edges.properties(x, 3, 1, 0, 2, 3, 4, 5);
        for (int venue = 0; venue < 4; venue++) {
            x.close(venue, Edges.ALL_ROUNDS);
        }
        staging(x, 6);
        edges.properties(x, 3, 4, 5, 4, 5, 4, 5);
        x.close(4, 1);
        staging(x, 5);
        // In round 1 the venue 5 has a match already, and the venue 4 has none.
        edges.properties(x, 3, 5, -1, 4, 5, 4, 5);
    }

    @Says("which has had fewest matches so far (of all that have it now), of several the lowest")
    static void promise05_venuesOfLaterResultsCount() {
        QuizFixtures x = new QuizFixtures();
        for (int venue = 0; venue < 4; venue++) {
            x.close(venue, Edges.ALL_ROUNDS);
        }
        x.stage();
        x.score(2, 1, 0);
        x.score(4, 1, 0);
        check.due("stage()", x.stage(), 4);
        // The venue 4 has two matches from the start.
        edges.properties(x, 3, 5, 4, 4, 5, 4, 5);
    }

    @Says("and who sets fewest matches, of several the lowest")
    static void promise05_theSetterWithFewestOfSeveralTheLowest() {
        QuizFixtures x = new QuizFixtures();
        staging(x, 6);
        // For 0 - 1 both the setters 2 and 3 have one match.
        edges.properties(x, 4, 1, 0, 2, 3, 4, 2);
        x.away(2, 2);
        staging(x, 6);
        // 3 - 1 is for 4 then; 3 - 2 for 5, who has none; 0 - 1 for 2, who has none.
        edges.properties(x, 4, 1, 0, 4, 3, 5, 2);
    }

    @Says("and who sets fewest matches, of several the lowest")
    static void promise05_settersOfLaterResultsCount() {
        QuizFixtures x = Edges.staged(4);
        x.walkover(5, true);
        check.due("stage()", x.stage(), 5);
        // The setter 2 has one match from the start, that of the match 5.
        edges.properties(x, 4, 1, 0, 4, 3, 5, 2);
    }

    // ---- setting 3

    @Says({"sets no other match of the round, and fewer than setting 3 matches in all",
        "3: the most matches of a setter, 1 to 28, at first 9"})
    static void promise05_aSettersLeastLimitIs1() {
        QuizFixtures x = new QuizFixtures();
        x.set(3, 1);
        staging(x, 5);
        edges.properties(x, 4, 1, 0, 2, 3, 4, -1);
        edges.properties(x, 5, 0, 0, 0, 0, 0, 2);
        x.set(3, 2);
        staging(x, 6);
        check.due("the second one of the setter 2", x.match(5, 4), 2);
    }

    @Says({"sets no other match of the round, and fewer than setting 3 matches in all",
        "3: the most matches of a setter, 1 to 28, at first 9"})
    static void promise05_aSetterOfEachRoundReachesALimitOf7() {
        int[] due = {1, 2, 6, 7, 7};
        int[] limits = {1, 2, 6, 7, 28};
        for (int at = 0; at < limits.length; at++) {
            QuizFixtures x = Edges.league(8);
            Edges.sendAwayAllBut(x, 4);
            x.set(3, limits[at]);
            staging(x, due[at]);
            check.due("count(7)", x.count(7), due[at]);
        }
    }

    @Says("sets no other match of the round, and fewer than setting 3 matches in all")
    static void promise05_matchesWithAResultCountForTheLimit() {
        QuizFixtures x = new QuizFixtures();
        Edges.sendAwayAllBut(x, 0);
        x.set(3, 2);
        staging(x, 2);
        x.score(1, 1, 0);
        x.score(2, 1, 0);
        check.due("stage() at the limit", x.stage(), 0);
        edges.properties(x, 5, 2, 0, 0, 2, 2, 2);
        x.set(3, 3);
        check.due("stage() with one more", x.stage(), 1);
        check.due("the third one of the setter 0", x.match(4, 4), 0);
    }

    @Says({"fewer than setting 3 matches in all", "(Matches with a result keep theirs.)"})
    static void promise05_resultsStayBeyondALowerLimit() {
        QuizFixtures x = new QuizFixtures();
        Edges.sendAwayAllBut(x, 0);
        x.stage();
        x.score(1, 1, 0);
        x.score(2, 1, 0);
        x.set(3, 1);
        check.due("stage()", x.stage(), 0);
        check.due("count(7)", x.count(7), 2);
        edges.properties(x, 4, -1, 0, 0, -1, -1, -1);
    }

    // ---- what is lost, what stays

    @Says("each one loses the venue and the setter that it had (all of them ahead of the first one)")
    static void promise05_stagingAgainAnswersTheSame() {
        for (int teams = 3; teams <= 8; teams++) {
            QuizFixtures x = Edges.staged(teams);
            QuizFixtures twice = Edges.staged(teams);
            check.due("stage() again", twice.stage(), x.count(3));
            for (int match = 0; match < Edges.MATCHES[teams]; match++) {
                check.due("venue of " + match, twice.match(match, 3), x.match(match, 3));
                check.due("setter of " + match, twice.match(match, 4), x.match(match, 4));
            }
        }
    }

    @Says("each one loses the venue and the setter that it had (all of them ahead of the first one)")
    static void promise05_aLaterMatchLosesItsVenueAheadOfTheFirst() {
        QuizFixtures x = new QuizFixtures();
        for (int venue = 0; venue < 4; venue++) {
            x.close(venue, Edges.ALL_ROUNDS);
        }
        x.stage();
        edges.properties(x, 3, 4, 5, 4, 5, 4, 5);
        x.close(4, 1);
        x.stage();
        // 1 - 2 had the venue 5, which 3 - 0 takes.
        check.due("venue of 3 - 0", x.match(0, 3), 5);
        check.due("venue of 1 - 2", x.match(1, 3), Edges.NONE);
    }

    @Says("(Matches with a result keep theirs.)")
    static void promise05_resultsKeepTheirsThoughClosedAndAway() {
        QuizFixtures x = Edges.staged(4);
        x.score(0, 0, 0);
        x.walkover(5, false);
        Edges.closeAllBut(x, Edges.NONE);
        Edges.sendAwayAllBut(x, Edges.NONE);
        check.due("stage()", x.stage(), 0);
        edges.properties(x, 3, 1, -1, -1, -1, -1, 5);
        edges.properties(x, 4, 1, -1, -1, -1, -1, 2);
        edges.properties(x, 5, 0, 1, 1, 1, 1, 0);
        edges.properties(x, 8, 1, 0, 0, 0, 0, 2);
    }

    @Says({"that no match of the round has", "(Matches with a result keep theirs.)"})
    static void promise05_theVenueOfALaterResultIsTaken() {
        QuizFixtures x = new QuizFixtures();
        for (int venue = 0; venue < 4; venue++) {
            x.close(venue, Edges.ALL_ROUNDS);
        }
        x.stage();
        x.score(1, 3, 3);
        x.close(4, 1);
        check.due("stage()", x.stage(), 4);
        check.due("3 - 0, as 1 - 2 is at 5", x.match(0, 5), 1);
    }

    @Says({"sets no other match of the round", "(Matches with a result keep theirs.)"})
    static void promise05_theSetterOfALaterResultIsTaken() {
        QuizFixtures x = Edges.league(6);
        Edges.sendAwayAllBut(x, 5);
        x.away(0, 0);
        x.stage();
        // 5 - 0, 1 - 4, 2 - 3: the setter 0 sets the second one, the setter 5 the third one.
        check.due("setter of 1 - 4", x.match(1, 4), 0);
        check.due("setter of 2 - 3", x.match(2, 4), 5);
        x.score(2, 4, 4);
        x.away(0, Edges.ALL_ROUNDS);
        x.stage();
        check.due("1 - 4, as 5 sets 2 - 3", x.match(1, 5), 2);
        check.due("2 - 3 is as it was", x.match(2, 4), 5);
    }

    @Says({"that no match of the round has", "(Matches with a result keep theirs.)"})
    static void promise05_theVenueOfResultsInAllRoundsIsTakenInEach() {
        QuizFixtures x = new QuizFixtures();
        for (int venue = 0; venue < 4; venue++) {
            x.close(venue, Edges.ALL_ROUNDS);
        }
        x.stage();
        for (int match = 1; match < 6; match += 2) {
            check.due("venue of " + match, x.match(match, 3), 5);
            x.score(match, 1, 0);
        }
        x.close(4, Edges.ALL_ROUNDS);
        check.due("stage()", x.stage(), 0);
        edges.properties(x, 5, 1, 0, 1, 0, 1, 0);
    }

    @Says({"sets no other match of the round", "(Matches with a result keep theirs.)"})
    static void promise05_theSetterOfResultsInTwoRoundsIsTakenInEach() {
        QuizFixtures x = Edges.league(6);
        Edges.sendAwayAllBut(x, 5);
        x.away(0, 0);
        x.stage();
        // In round 0 the setter 5 sets 2 - 3, in round 1 it sets 2 - 0.
        x.score(2, 1, 0);
        x.score(4, 1, 0);
        edges.properties(x, 4, -1, 0, 5, 0, 5, -1);
        x.away(0, Edges.ALL_ROUNDS);
        x.stage();
        edges.properties(x, 4, -1, -1, 5, -1, 5, -1);
        edges.properties(x, 5, 2, 2, 0, 2, 0, 2);
    }

    @Says("Returns how many of those without a result have a venue then.")
    static void promise05_returns0WhenAllHaveAResult() {
        QuizFixtures x = Edges.staged(3);
        Edges.playAll(x, 3, false);
        check.due("stage()", x.stage(), 0);
        check.due("count(3)", x.count(3), 3);
        check.due("saved states", x.count(9), 6);
    }

    @Says("Returns how many of those without a result have a venue then.")
    static void promise05_returnsAllOf3TeamsAndOf8() {
        staging(Edges.league(3), 3);
        staging(Edges.league(8), 28);
        QuizFixtures x = Edges.staged(8);
        x.score(27, 1, 0);
        check.due("one less with a result", x.stage(), 27);
    }

    @Says("Stages the matches. Undoable.")
    static void promise05_isUndoable() {
        edges.undoable("the first staging", () -> Edges.league(7), x -> x.stage());
        edges.undoable("the same once more", () -> Edges.staged(7), x -> x.stage());
        QuizFixtures x = Edges.staged(4);
        Edges.closeAllBut(x, Edges.NONE);
        x.stage();
        x.undo();
        edges.properties(x, 3, 1, 0, 2, 3, 4, 5);
        edges.properties(x, 4, 1, 0, 2, 3, 4, 2);
        edges.properties(x, 5, 0, 0, 0, 0, 0, 0);
    }
}
