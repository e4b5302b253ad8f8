/** The edges of the promises 15 to 20: match, team, table, busy, count, setting. */
public final class LooksEdgesTest {
    private static final Check check = new Check("LooksEdgesTest");
    private static final Edges edges = new Edges(check);

    public static void main(String[] args) {
        check.runTestsOf(LooksEdgesTest.class);
        check.end();
    }

    // ---- match

    @Says({"`match`: its number", "Throws `IndexOutOfBoundsException` if there is no such match"})
    static void promise15_theFirstAndTheLastMatch() {
        for (int teams = 3; teams <= 8; teams++) {
            int last = Edges.MATCHES[teams] - 1;
            int count = teams;
            check.due("the first", Edges.league(teams).match(0, 0), 0);
            check.due("the last", Edges.league(teams).match(last, 0), Edges.ROUNDS[teams] - 1);
            edges.refused("one more", () -> Edges.league(count), Edges.NO_SUCH, x -> x.match(last + 1, 0));
            edges.refused("one less", () -> Edges.league(count), Edges.NO_SUCH, x -> x.match(-1, 0));
        }
    }

    @Says("Throws `IndexOutOfBoundsException` if there is no such match")
    static void promise15_refusesMatchesFarOutside() {
        for (int match : Edges.FAR_OUTSIDE) {
            edges.refused("match(" + match + ", 0)", Edges.NO_SUCH, x -> x.match(match, 0));
        }
    }

    @Says({"Returns the property.", "Throws `IllegalArgumentException` if what is not 0 to 8"})
    static void promise15_properties0To8() {
        QuizFixtures x = Edges.inTheMidst();
        check.looks("match(4, 0)", x, 2, () -> x.match(4, 0));
        check.looks("match(1, 8)", x, 3, () -> x.match(1, 8));
        for (int what : new int[] {-1, 9, Integer.MIN_VALUE, Integer.MAX_VALUE}) {
            edges.refused("match(0, " + what + ")", Edges.BAD, y -> y.match(0, what));
        }
    }

    @Says("If several exceptions apply, the one that is named first in the throws clause is thrown.")
    static void promise15_noSuchMatchIsToldFirst() {
        edges.refused("match(6, 9)", Edges.NO_SUCH, x -> x.match(6, 9));
        edges.refused("match(-1, -1)", Edges.NO_SUCH, x -> x.match(-1, -1));
    }

    @Says({"3: its venue, NONE if it has none; 4: its setter, NONE likewise;",
        "5: why it has none, 0 if it has one or was never staged;"})
    static void promise15_withoutAVenueAndASetter() {
        QuizFixtures x = new QuizFixtures();
        check.due("venue, never staged", x.match(5, 3), Edges.NONE);
        check.due("setter, never staged", x.match(5, 4), Edges.NONE);
        check.due("why, never staged", x.match(5, 5), 0);
        x.set(3, 1);
        x.stage();
        check.due("venue without a setter", x.match(5, 3), Edges.NONE);
        check.due("setter without a setter", x.match(5, 4), Edges.NONE);
        check.due("why without a setter", x.match(5, 5), 2);
        check.due("venue of another", x.match(4, 3), 4);
        check.due("setter of another", x.match(4, 4), 4);
        check.due("why of another", x.match(4, 5), 0);
    }

    @Says("6: the score of the first team, NONE without a result; 7: that of the second one, likewise;")
    static void promise15_noScoreIsNotTheScore0() {
        QuizFixtures x = Edges.staged(4);
        check.due("first score without a result", x.match(0, 6), Edges.NONE);
        check.due("second score without a result", x.match(0, 7), Edges.NONE);
        x.score(0, 0, 0);
        check.due("first score of 0 to 0", x.match(0, 6), 0);
        check.due("second score of 0 to 0", x.match(0, 7), 0);
        x.annul(0);
        check.due("first score, annulled", x.match(0, 6), Edges.NONE);
        check.due("second score, annulled", x.match(0, 7), Edges.NONE);
    }

    @Says("8: the result: 0 none, 1 scores, 2 a walkover of the first team, 3 one of the second team")
    static void promise15_eachKindOfResult() {
        QuizFixtures x = Edges.staged(4);
        x.score(1, 20, 0);
        x.walkover(2, false);
        x.walkover(3, true);
        edges.properties(x, 8, 0, 1, 2, 3, 0, 0);
    }

    // ---- team

    @Says({"`team`: its number", "Throws `IndexOutOfBoundsException` if there is no such team"})
    static void promise16_theFirstAndTheLastTeam() {
        for (int teams = 3; teams <= 8; teams++) {
            int count = teams;
            check.due("the first", Edges.league(teams).team(0, 7), 0);
            check.due("the last", Edges.league(teams).team(teams - 1, 7), teams - 1);
            edges.refused("one more", () -> Edges.league(count), Edges.NO_SUCH, x -> x.team(count, 7));
            edges.refused("one less", () -> Edges.league(count), Edges.NO_SUCH, x -> x.team(-1, 7));
        }
    }

    @Says("Throws `IndexOutOfBoundsException` if there is no such team")
    static void promise16_refusesTeamsFarOutside() {
        for (int team : Edges.FAR_OUTSIDE) {
            edges.refused("team(" + team + ", 0)", Edges.NO_SUCH, x -> x.team(team, 0));
        }
    }

    @Says({"Returns the property.", "Throws `IllegalArgumentException` if what is not 0 to 8"})
    static void promise16_properties0To8() {
        QuizFixtures x = Edges.inTheMidst();
        check.looks("team(3, 0)", x, 2, () -> x.team(3, 0));
        check.looks("team(3, 8)", x, 2, () -> x.team(3, 8));
        for (int what : new int[] {-1, 9, Integer.MIN_VALUE, Integer.MAX_VALUE}) {
            edges.refused("team(0, " + what + ")", Edges.BAD, y -> y.team(0, what));
        }
    }

    @Says("If several exceptions apply, the one that is named first in the throws clause is thrown.")
    static void promise16_noSuchTeamIsToldFirst() {
        edges.refused("team(4, 9)", Edges.NO_SUCH, x -> x.team(4, 9));
        edges.refused("team(-1, -1)", Edges.NO_SUCH, x -> x.team(-1, -1));
    }

    @Says("1: matches with a result; 2: of these those it won; 3: those with equal scores;")
    static void promise16_noMatchAndAllMatchesPlayed() {
        QuizFixtures x = Edges.staged(8);
        int[] before = {0, 0, 0, 0, 0, 0, 0, 7, 7};
        for (int what = 0; what < 9; what++) {
            check.due("team(7, " + what + ") without a result", x.team(7, what), before[what]);
        }
        // The team 7 is the first one of all its matches but none other.
        for (int other = 0; other < 7; other++) {
            x.score(x.meeting(7, other), 99, other == 6 ? 99 : 98);
        }
        int[] behind = {13, 7, 6, 1, 693, 687, 0, 0, 0};
        for (int what = 0; what < 9; what++) {
            check.due("team(7, " + what + ") with all results", x.team(7, what), behind[what]);
        }
    }

    @Says("6: walkovers that it gave; 7: its place in the table, from 0; 8: its matches without a result")
    static void promise16_matchesWithoutAVenueAreWithoutAResult() {
        QuizFixtures x = Edges.inTheMidst();
        // 3 - 0 and 1 - 2 have results, and 0 - 1 has no venue.
        edges.teams(x, 8, 2, 2, 2, 2);
        edges.teams(x, 1, 1, 1, 1, 1);
        edges.teams(x, 6, 0, 0, 1, 0);
    }

    // ---- table

    @Says({"`place`: the place, from 0", "Throws `IllegalArgumentException` if place is below 0"})
    static void promise17_refusesPlacesBelow0() {
        for (int place : new int[] {-1, -4, Integer.MIN_VALUE}) {
            edges.refused("table(" + place + ")", Edges.BAD, x -> x.table(place));
        }
    }

    @Says("Returns the team, NONE if there are not so many.")
    static void promise17_theFirstTheLastAndNoPlace() {
        for (int teams = 3; teams <= 8; teams++) {
            QuizFixtures x = Edges.league(teams);
            int last = teams - 1;
            check.looks("the first", x, 0, () -> x.table(0));
            check.looks("the last", x, last, () -> x.table(last));
            for (int place : new int[] {teams, teams + 1, 9, Integer.MAX_VALUE}) {
                check.looks("table(" + place + ")", x, Edges.NONE, () -> x.table(place));
            }
        }
    }

    @Says("The table has the teams in the order of their points, those with more first;")
    static void promise17_onePointMoreIsAheadOfAnyDifference() {
        QuizFixtures x = Edges.staged(4);
        x.score(0, 99, 0);
        x.score(1, 1, 0);
        x.score(5, 0, 0);
        edges.teams(x, 0, 1, 3, 0, 2);
        edges.table(x, 1, 3, 0, 2);
    }

    @Says("The table has the teams in the order of their points, those with more first;")
    static void promise17_pointsBelow0AreBehind0() {
        QuizFixtures x = Edges.staged(4);
        x.walkover(0, false);
        edges.table(x, 0, 1, 2, 3);
        x.walkover(1, false);
        edges.teams(x, 0, 2, -1, 2, -1);
        edges.table(x, 0, 2, 1, 3);
    }

    @Says("of several by the difference of their scores and those against them, the greater first;")
    static void promise17_oneMoreInTheDifferenceIsAheadOfAnyScores() {
        QuizFixtures x = Edges.staged(4);
        x.score(0, 3, 1);
        x.score(1, 99, 98);
        edges.table(x, 3, 1, 2, 0);
    }

    @Says("of several by their scores, the greater first; of several the lowest number.")
    static void promise17_oneMoreScoreIsAheadOfALowerNumber() {
        QuizFixtures x = Edges.staged(4);
        x.score(0, 3, 2);
        x.score(1, 2, 1);
        edges.table(x, 3, 1, 0, 2);
    }

    @Says("of several by their scores, the greater first; of several the lowest number.")
    static void promise17_theLowestNumberIfAllIsEqual() {
        edges.table(Edges.league(8), 0, 1, 2, 3, 4, 5, 6, 7);
        QuizFixtures x = Edges.staged(4);
        x.score(0, 2, 1);
        x.score(1, 2, 1);
        edges.table(x, 1, 3, 0, 2);
    }

    // ---- busy

    @Says({"`round`: 0 to as many rounds as there are less 1",
        "Throws `IndexOutOfBoundsException` if there is no such round"})
    static void promise18_theFirstAndTheLastRound() {
        for (int teams = 3; teams <= 8; teams++) {
            int rounds = Edges.ROUNDS[teams];
            int count = teams;
            int[] held = {0, 0};
            QuizFixtures x = Edges.staged(teams);
            for (int venue = 0; venue < 6; venue++) {
                held[0] += x.busy(0, venue) == Edges.NONE ? 0 : 1;
                held[1] += x.busy(rounds - 1, venue) == Edges.NONE ? 0 : 1;
            }
            check.due("venues in the first round", held[0], teams / 2);
            check.due("venues in the last round", held[1], teams / 2);
            edges.refused("one more", () -> Edges.staged(count), Edges.NO_SUCH, y -> y.busy(rounds, 0));
            edges.refused("one less", () -> Edges.staged(count), Edges.NO_SUCH, y -> y.busy(-1, 0));
        }
    }

    @Says("Throws `IndexOutOfBoundsException` if there is no such round")
    static void promise18_refusesRoundsFarOutside() {
        for (int round : Edges.FAR_OUTSIDE) {
            edges.refused("busy(" + round + ", 0)", Edges.NO_SUCH, x -> x.busy(round, 0));
        }
    }

    @Says("`number`: 0 to 5: a venue; 6 to 11: the setter with the number less 6")
    static void promise18_theFirstAndTheLastVenueAndSetter() {
        QuizFixtures x = Edges.staged(4);
        check.looks("the venue 0", x, 1, () -> x.busy(0, 0));
        check.looks("the venue 5", x, 5, () -> x.busy(2, 5));
        check.looks("the setter 0", x, 1, () -> x.busy(0, 6));
        x.away(0, Edges.ALL_ROUNDS);
        x.away(1, Edges.ALL_ROUNDS);
        x.away(2, Edges.ALL_ROUNDS);
        x.stage();
        // 3 - 0 in round 0 may be set by the setter 5 alone then.
        check.looks("the setter 5", x, 0, () -> x.busy(0, 11));
    }

    @Says("Throws `IllegalArgumentException` if number is out of range")
    static void promise18_refusesNumbersOutside() {
        for (int number : new int[] {-1, 12, Integer.MIN_VALUE, Integer.MAX_VALUE}) {
            edges.refused("busy(0, " + number + ")", Edges.BAD, x -> x.busy(0, number));
        }
    }

    @Says("If several exceptions apply, the one that is named first in the throws clause is thrown.")
    static void promise18_noSuchRoundIsToldFirst() {
        edges.refused("busy(3, 12)", Edges.NO_SUCH, x -> x.busy(3, 12));
        edges.refused("busy(-1, -1)", Edges.NO_SUCH, x -> x.busy(-1, -1));
    }

    @Says("Returns the match, NONE if there is none.")
    static void promise18_isNoneIfNothingIsStaged() {
        QuizFixtures x = Edges.league(8);
        for (int number = 0; number < 12; number++) {
            check.due("busy(0, " + number + ")", x.busy(0, number), Edges.NONE);
            check.due("busy(6, " + number + ")", x.busy(6, number), Edges.NONE);
        }
    }

    @Says("Returns who has a venue or sets a match in a round.")
    static void promise18_isNotWhoIsClosedOrAway() {
        QuizFixtures x = Edges.staged(4);
        x.close(1, Edges.ALL_ROUNDS);
        x.away(1, Edges.ALL_ROUNDS);
        check.due("a closed venue with a match", x.busy(0, 1), 0);
        check.due("a setter who is away, with a match", x.busy(0, 7), 0);
        x.stage();
        check.due("a closed venue", x.busy(0, 1), Edges.NONE);
        check.due("a setter who is away", x.busy(0, 7), Edges.NONE);
    }

    // ---- count

    @Says({"Returns the number.", "Throws `IllegalArgumentException` if what is not 0 to 9"})
    static void promise19_numbers0To9() {
        QuizFixtures x = Edges.inTheMidst();
        check.looks("count(0)", x, 4, () -> x.count(0));
        check.looks("count(9)", x, 6, () -> x.count(9));
        for (int what : new int[] {-1, 10, Integer.MIN_VALUE, Integer.MAX_VALUE}) {
            edges.refused("count(" + what + ")", Edges.BAD, y -> y.count(what));
        }
    }

    private static void counts(QuizFixtures x, int... due) {
        for (int what = 0; what < due.length; what++) {
            check.due("count(" + what + ")", x.count(what), due[what]);
        }
    }

    @Says("0: teams; 1: rounds; 2: matches; 3: those with a venue; 4: those with a result; 5: walkovers;")
    static void promise19_theLeastAndTheGreatestNumbers() {
        counts(new QuizFixtures(), 4, 3, 6, 0, 0, 0, 0, 0, 0, 0);
        counts(Edges.league(3), 3, 3, 3, 0, 0, 0, 0, 0, 0, 1);
        QuizFixtures x = Edges.staged(8);
        counts(x, 8, 7, 28, 28, 0, 0, 0, 5, 5, 2);
        Edges.playAll(x, 28, true);
        counts(x, 8, 7, 28, 28, 28, 28, 28, 5, 5, 6);
    }

    @Says("6: points of all teams together;")
    static void promise19_thePointsOfAllTeams() {
        QuizFixtures x = Edges.staged(3);
        Edges.playAll(x, 3, true);
        check.due("count(6)", x.count(6), 3);
        x.set(0, 1);
        check.due("count(6), one for winning and one less", x.count(6), 0);
        x.set(0, 5);
        check.due("count(6), five for winning and one less", x.count(6), 12);
        x.score(0, 0, 0);
        check.due("count(6), with equal scores", x.count(6), 10);
    }

    @Says("7: the most matches that a setter sets; 8: the most matches that a venue has;")
    static void promise19_theMostOfASetterAndOfAVenue() {
        for (int number = 0; number < 6; number += 5) {
            QuizFixtures setter = Edges.league(8);
            Edges.sendAwayAllBut(setter, number);
            setter.stage();
            check.due("one in each round by the setter " + number, setter.count(7), 7);
            QuizFixtures venue = Edges.league(8);
            Edges.closeAllBut(venue, number);
            venue.stage();
            check.due("one in each round at the venue " + number, venue.count(8), 7);
        }
    }

    @Says("7: the most matches that a setter sets; 8: the most matches that a venue has; 9: saved states")
    static void promise19_savedStatesUpTo6() {
        QuizFixtures x = new QuizFixtures();
        for (int call = 1; call <= 8; call++) {
            x.annul(0);
            check.due("count(9)", x.count(9), call < 6 ? call : 6);
        }
        x.undo();
        check.due("count(9) behind an undo", x.count(9), 5);
    }

    // ---- setting

    @Says({"`setting`: 0 to 3", "Returns its value.", "Throws `IndexOutOfBoundsException` if there is no such setting"})
    static void promise20_settings0To3() {
        QuizFixtures x = Edges.inTheMidst();
        check.looks("setting(0)", x, 2, () -> x.setting(0));
        check.looks("setting(3)", x, 1, () -> x.setting(3));
        for (int setting : new int[] {-1, 4, Integer.MIN_VALUE, Integer.MAX_VALUE}) {
            edges.refused("setting(" + setting + ")", Edges.NO_SUCH, y -> y.setting(setting));
        }
    }

    @Says("Returns a setting.")
    static void promise20_eachOfTheLeastAndTheGreatestValues() {
        int[][] values = {{1, 5}, {0, 3}, {1, 50}, {1, 28}};
        for (int setting = 0; setting < 4; setting++) {
            for (int value : values[setting]) {
                QuizFixtures x = new QuizFixtures();
                x.set(setting, value);
                check.due("setting(" + setting + ")", x.setting(setting), value);
            }
        }
    }
}
