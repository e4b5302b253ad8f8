/** The edges of the promises 21 to 25: meeting, bestPlace, isSure, ifMissing, closeness. */
public final class WouldBeEdgesTest {
    private static final Check check = new Check("WouldBeEdgesTest");
    private static final Edges edges = new Edges(check);

    public static void main(String[] args) {
        check.runTestsOf(WouldBeEdgesTest.class);
        check.end();
    }

    // ---- meeting

    @Says({"`team`: one", "`other`: another one", "Returns the number of their match."})
    static void promise21_theFirstAndTheLastTeamEitherWay() {
        for (int teams = 3; teams <= 8; teams++) {
            int last = teams - 1;
            QuizFixtures x = Edges.league(teams);
            int match = x.meeting(0, last);
            check.looks("meeting(last, 0)", x, match, () -> x.meeting(last, 0));
            check.due("both are in it", x.match(match, 1) + x.match(match, 2), last);
            check.due("the one with 0", Math.min(x.match(match, 1), x.match(match, 2)), 0);
        }
        check.due("of 4 teams", Edges.league(4).meeting(0, 3), 0);
        check.due("of 8 teams", Edges.league(8).meeting(7, 0), 0);
    }

    @Says("Returns the number of their match.")
    static void promise21_isANumberOfItsOwnForEachTwoTeams() {
        for (int teams = 3; teams <= 8; teams++) {
            QuizFixtures x = Edges.league(teams);
            int found = 0;
            for (int team = 0; team < teams; team++) {
                for (int other = team + 1; other < teams; other++) {
                    found |= 1 << x.meeting(team, other);
                }
            }
            check.due("the matches of " + teams + " teams", found, (1 << Edges.MATCHES[teams]) - 1);
        }
    }

    @Says("Throws `IndexOutOfBoundsException` if there is no such team")
    static void promise21_refusesTeamsOutside() {
        for (int team : new int[] {-1, 4, 7, Integer.MIN_VALUE, Integer.MAX_VALUE}) {
            edges.refused("meeting(" + team + ", 0)", Edges.NO_SUCH, x -> x.meeting(team, 0));
            edges.refused("meeting(0, " + team + ")", Edges.NO_SUCH, x -> x.meeting(0, team));
        }
        edges.refused("of 3 teams", () -> Edges.league(3), Edges.NO_SUCH, x -> x.meeting(0, 3));
        edges.refused("of 8 teams", () -> Edges.league(8), Edges.NO_SUCH, x -> x.meeting(8, 7));
    }

    @Says("Throws `IllegalArgumentException` if both are the same")
    static void promise21_refusesATeamAndItself() {
        for (int team = 0; team < 4; team++) {
            int same = team;
            edges.refused("meeting(" + team + ", " + team + ")", Edges.BAD, x -> x.meeting(same, same));
        }
    }

    @Says("If several exceptions apply, the one that is named first in the throws clause is thrown.")
    static void promise21_noSuchTeamIsToldAheadOfTheSame() {
        for (int team : new int[] {-1, 4, Integer.MIN_VALUE, Integer.MAX_VALUE}) {
            edges.refused("meeting(" + team + ", " + team + ")", Edges.NO_SUCH, x -> x.meeting(team, team));
        }
    }

    // ---- bestPlace

    private static void best(QuizFixtures x, int... due) {
        for (int team = 0; team < due.length; team++) {
            int at = team;
            check.looks("bestPlace(" + team + ")", x, due[team], () -> x.bestPlace(at));
        }
    }

    @Says("Throws `IndexOutOfBoundsException` if there is no such team")
    static void promise22_refusesTeamsOutside() {
        for (int team : new int[] {-1, 4, 7, Integer.MIN_VALUE, Integer.MAX_VALUE}) {
            edges.refused("bestPlace(" + team + ")", Edges.NO_SUCH, x -> x.bestPlace(team));
        }
        edges.refused("of 3 teams", () -> Edges.league(3), Edges.NO_SUCH, x -> x.bestPlace(3));
        edges.refused("of 8 teams", () -> Edges.league(8), Edges.NO_SUCH, x -> x.bestPlace(8));
    }

    @Says({"`team`: its number", "Returns the place, from 0."})
    static void promise22_isTheFirstPlaceForAllWithoutAResult() {
        best(Edges.league(3), 0, 0, 0);
        best(Edges.staged(8), 0, 0, 0, 0, 0, 0, 0, 0);
    }

    @Says("all other matches without a result were left as they are.")
    static void promise22_isThePlaceAsItStandsWithoutOpenMatches() {
        QuizFixtures x = Edges.staged(8);
        Edges.playAll(x, 28, false);
        for (int team = 0; team < 8; team++) {
            check.due("bestPlace(" + team + ")", x.bestPlace(team), x.team(team, 7));
        }
        check.due("the first", x.bestPlace(x.table(0)), 0);
        check.due("the last", x.bestPlace(x.table(7)), 7);
    }

    @Says("if it won all its matches without a result (also those without a venue) by 99 to 0")
    static void promise22_matchesWithoutAVenueCountToo() {
        QuizFixtures x = new QuizFixtures();
        best(x, 0, 0, 0, 0);
        Edges.closeAllBut(x, Edges.NONE);
        x.stage();
        best(x, 0, 0, 0, 0);
        QuizFixtures y = Edges.inTheMidst();
        // 0 - 1 has no venue, 3 has beaten 0, and 1 has beaten 2 by a walkover.
        best(y, 0, 0, 0, 0);
    }

    @Says("by 99 to 0, which counts for the others, too")
    static void promise22_countsFor99AndAgainst0() {
        QuizFixtures asFirst = Edges.staged(3);
        asFirst.score(0, 0, 99);
        asFirst.score(1, 0, 0);
        // 0 - 1 is open. With 3 points and 99 to 0, as 2 has, 0 is ahead by its number.
        best(asFirst, 0, 1, 0);
        QuizFixtures asSecond = Edges.staged(3);
        asSecond.score(0, 0, 0);
        asSecond.score(1, 99, 0);
        // 0 - 1 is open. With 3 points and 99 to 0, as 2 has, 1 is ahead by its number.
        best(asSecond, 1, 0, 0);
    }

    @Says("by 99 to 0, which counts for the others, too")
    static void promise22_countsForNoMoreThan99AndAgainstNoLessThan0() {
        QuizFixtures asFirst = Edges.staged(3);
        asFirst.score(0, 0, 0);
        asFirst.score(2, 0, 99);
        // 2 - 0 is open. With 3 points and 99 to 0, as 1 has, 2 is behind by its number.
        best(asFirst, 1, 0, 1);
        QuizFixtures asSecond = Edges.staged(3);
        asSecond.score(1, 0, 0);
        asSecond.score(2, 99, 0);
        // 1 - 2 is open. With 3 points and 99 to 0, as 0 has, 2 is behind by its number.
        best(asSecond, 0, 1, 1);
    }

    @Says("by 99 to 0, which counts for the others, too")
    static void promise22_fallsWithinAPointOfTheSamePlace() {
        QuizFixtures x = Edges.staged(3);
        x.score(0, 98, 0);
        x.score(1, 98, 0);
        // 0 - 1 is open. By winning, 0 has the difference 1, and 1 falls from 98 to -1.
        best(x, 0, 0, 1);
        x.score(0, 2, 0);
        // 2 has the difference 96 then, and is ahead of 0.
        best(x, 1, 0, 0);
    }

    @Says("all other matches without a result were left as they are.")
    static void promise22_otherOpenMatchesAreLeft() {
        QuizFixtures x = Edges.staged(4);
        x.score(0, 99, 0);
        x.score(2, 99, 0);
        x.score(4, 99, 0);
        // 3 has 6 points from all its matches; 0, 1 and 2 have two open ones each.
        best(x, 1, 1, 1, 0);
        x.walkover(2, false);
        x.walkover(4, false);
        x.set(0, 1);
        // 3 has 1 - 2 points, and no other team is below 0.
        best(x, 0, 0, 0, 3);
    }

    @Says("if it won all its matches without a result (also those without a venue) by 99 to 0")
    static void promise22_theFirstAndTheLastMatchCount() {
        QuizFixtures first = Edges.staged(3);
        first.score(1, 0, 1);
        first.score(2, 0, 0);
        first.set(1, 2);
        // 1 - 2, the match 0, is open: with it 1 has 4 points as 0, and the greater difference; 2 has 2.
        best(first, 0, 0, 1);
        QuizFixtures last = Edges.staged(3);
        last.score(0, 0, 1);
        last.score(1, 1, 1);
        // 0 - 1, the match 2, is open: with it 0 has 3 points as 2, and the greater difference; 1 has 2.
        best(last, 0, 1, 0);
    }

    @Says("if it won all its matches without a result (also those without a venue) by 99 to 0")
    static void promise22_isNoWalkover() {
        QuizFixtures x = Edges.staged(3);
        x.set(2, 50);
        x.score(0, 0, 60);
        x.score(1, 1, 1);
        // 0 - 1 is open. By 99, and not by 50, 0 is ahead of 2.
        best(x, 0, 1, 0);
    }

    // ---- isSure

    private static void sure(QuizFixtures x, int... due) {
        for (int team = 0; team < due.length; team++) {
            int at = team;
            check.looks("isSure(" + team + ")", x, due[team], () -> x.isSure(at));
        }
    }

    @Says({"`team`: its number", "Throws `IndexOutOfBoundsException` if there is no such team"})
    static void promise23_refusesTeamsOutside() {
        for (int team : new int[] {-1, 4, 7, Integer.MIN_VALUE, Integer.MAX_VALUE}) {
            edges.refused("isSure(" + team + ")", Edges.NO_SUCH, x -> x.isSure(team));
        }
        edges.refused("of 3 teams", () -> Edges.league(3), Edges.NO_SUCH, x -> x.isSure(3));
        edges.refused("of 8 teams", () -> Edges.league(8), Edges.NO_SUCH, x -> x.isSure(8));
    }

    @Says("otherwise 0.")
    static void promise23_nobodyIsSureWithoutAResult() {
        sure(Edges.league(3), 0, 0, 0);
        sure(Edges.staged(8), 0, 0, 0, 0, 0, 0, 0, 0);
    }

    @Says("Tells whether nobody can have as many points as a team.")
    static void promise23_asManyPointsAreTooMany() {
        QuizFixtures x = Edges.staged(3);
        x.set(1, 0);
        x.score(1, 0, 1);
        x.score(2, 1, 1);
        // 0 has 2 points; 1 - 2 is open, and either can have 2.
        sure(x, 0, 0, 0);
        x.score(0, 1, 1);
        // No match is open, and 0 has 2 points against none.
        sure(x, 1, 0, 0);
    }

    @Says("Returns 1 if each other team would have fewer points than it has now")
    static void promise23_onePointMoreIsEnough() {
        QuizFixtures x = Edges.staged(3);
        x.set(0, 1);
        x.score(1, 0, 1);
        x.score(2, 1, 0);
        // 0 has 2 points; 1 - 2 is open, and either can have 1.
        sure(x, 1, 0, 0);
        x.score(2, 0, 0);
        // 0 and 1 have one more by equal scores; 0 has 2, and 1 can have 2.
        sure(x, 0, 0, 0);
    }

    @Says("than it has now, also with winning all its matches without a result")
    static void promise23_itsOwnOpenMatchesDoNotCount() {
        QuizFixtures x = Edges.staged(3);
        x.score(0, 0, 0);
        x.score(1, 1, 0);
        // 2 has 3 points, 1 has 1 and can have 3.
        sure(x, 0, 0, 0);
        x.walkover(0, false);
        // 2 has 4 points, 1 has -1 and can have 1, 0 can have 2.
        sure(x, 0, 0, 1);
        QuizFixtures y = Edges.staged(3);
        y.score(2, 1, 0);
        // 0 has 2 points and one open match, and so has 2 without any, who can have 4.
        sure(y, 0, 0, 0);
    }

    @Says("Returns 1 if each other team would have fewer points than it has now")
    static void promise23_theFirstOrTheLastTeamAloneIsEnoughAgainstIt() {
        QuizFixtures first = Edges.staged(3);
        first.set(1, 0);
        first.score(0, 0, 1);
        first.score(2, 0, 0);
        // 2 has 2 points; 2 - 0 is open, and 0 can have 2.
        sure(first, 0, 0, 0);
        first.score(1, 0, 0);
        sure(first, 0, 0, 1);
        QuizFixtures last = Edges.staged(3);
        last.set(1, 0);
        last.score(2, 1, 0);
        last.score(0, 0, 0);
        // 0 has 2 points; 2 - 0 is open, and 2 can have 2.
        sure(last, 0, 0, 0);
        last.score(1, 0, 0);
        sure(last, 1, 0, 0);
    }

    @Says("also with winning all its matches without a result (also those without a venue), otherwise 0.")
    static void promise23_matchesWithoutAVenueCountToo() {
        QuizFixtures x = Edges.staged(3);
        x.score(1, 0, 1);
        x.score(2, 1, 1);
        Edges.closeAllBut(x, Edges.NONE);
        x.stage();
        check.due("1 - 2 has no venue", x.match(0, 3), Edges.NONE);
        // 0 has 3 points; 1 has 1 and can have 3.
        sure(x, 0, 0, 0);
    }

    // ---- ifMissing

    private static void missing(QuizFixtures x, int... due) {
        for (int number = 0; number < due.length; number++) {
            int at = number;
            check.looks("ifMissing(" + number + ")", x, due[number], () -> x.ifMissing(at));
        }
    }

    @Says({"`number`: 0 to 5: a venue; 6 to 11: the setter with the number less 6",
        "Throws `IllegalArgumentException` if number is out of range"})
    static void promise24_refusesNumbersOutside() {
        for (int number : new int[] {-1, 12, Integer.MIN_VALUE, Integer.MAX_VALUE}) {
            edges.refused("ifMissing(" + number + ")", Edges.BAD, x -> x.ifMissing(number));
        }
    }

    @Says("if it was closed, or away, in all rounds.")
    static void promise24_noneIsLeftWithoutTheLastVenue() {
        for (int venue = 0; venue < 6; venue++) {
            QuizFixtures x = new QuizFixtures();
            Edges.closeAllBut(x, venue);
            for (int number = 0; number < 6; number++) {
                check.due("at " + venue + " without " + number, x.ifMissing(number), number == venue ? 0 : 3);
            }
            check.due("nothing is staged", x.count(3), 0);
            check.due("the venue is open", x.close(venue, 0), 0);
        }
    }

    @Says("if it was closed, or away, in all rounds.")
    static void promise24_noneIsLeftWithoutTheLastSetter() {
        for (int setter = 0; setter < 6; setter++) {
            QuizFixtures x = new QuizFixtures();
            Edges.sendAwayAllBut(x, setter);
            for (int number = 0; number < 6; number++) {
                check.due("by " + setter + " without " + number, x.ifMissing(6 + number), number == setter ? 0 : 3);
            }
            check.due("nothing is staged", x.count(3), 0);
            check.due("the setter is there", x.away(setter, 0), 0);
        }
    }

    @Says("Tells how many matches would have a venue if one venue or setter less was there in all rounds.")
    static void promise24_isMissingInTheFirstAndTheLastRound() {
        QuizFixtures x = Edges.league(8);
        Edges.closeAllBut(x, 5);
        x.close(5, 2 + 4 + 8 + 16 + 32);
        // The venue 5 is open in the rounds 0 and 6 alone.
        missing(x, 2, 2, 2, 2, 2, 0, 2, 2, 2, 2, 2, 2);
        QuizFixtures y = Edges.league(8);
        Edges.sendAwayAllBut(y, 0);
        y.away(0, 2 + 4 + 8 + 16 + 32);
        missing(y, 2, 2, 2, 2, 2, 2, 0, 2, 2, 2, 2, 2);
    }

    @Says("Returns how many matches without a result would have a venue behind stage()")
    static void promise24_is0WhenAllHaveAResult() {
        QuizFixtures x = Edges.staged(3);
        Edges.playAll(x, 3, false);
        missing(x, 0, 0, 0, 0, 0, 0, 0, 0, 0, 0, 0, 0);
        x.annul(2);
        missing(x, 1, 1, 1, 1, 1, 1, 1, 1, 1, 1, 1, 1);
    }

    @Says("Returns how many matches without a result would have a venue behind stage()")
    static void promise24_isAsIfStagedAnew() {
        QuizFixtures x = Edges.staged(4);
        Edges.closeAllBut(x, Edges.NONE);
        missing(x, 0, 0, 0, 0, 0, 0, 0, 0, 0, 0, 0, 0);
        check.due("what is staged stays", x.count(3), 6);
        QuizFixtures full = Edges.league(8);
        // Without the venue 4 or 5 the last match, 2 - 3, has no venue, and without the setter 4 or 5 no setter.
        missing(full, 28, 28, 28, 28, 27, 27, 28, 28, 28, 28, 27, 27);
        check.due("nothing is staged", full.count(3), 0);
        check.due("no reason", full.match(27, 5), 0);
    }

    @Says("3: the most matches of a setter, 1 to 28, at first 9")
    static void promise24_aSetterLessAtTheLimit() {
        QuizFixtures x = Edges.league(8);
        x.set(3, 1);
        missing(x, 6, 6, 6, 6, 6, 6, 5, 5, 5, 5, 5, 5);
    }

    // ---- closeness

    private static void close(QuizFixtures x, double due) {
        long before = x.digest();
        check.dueDouble("closeness()", x.closeness(), due);
        check.due("closeness() changes nothing", x.digest(), before);
    }

    @Says("1.0 if these are 0 or below.")
    static void promise25_is1IfTheFirstHas0() {
        close(Edges.league(3), 1.0);
        close(Edges.league(8), 1.0);
        QuizFixtures x = Edges.staged(3);
        x.set(0, 1);
        Edges.playAll(x, 3, true);
        // Each team has won a match, and has given a walkover.
        edges.teams(x, 0, 0, 0, 0);
        close(x, 1.0);
        QuizFixtures y = Edges.staged(4);
        y.set(1, 0);
        y.score(0, 9, 9);
        close(y, 1.0);
    }

    @Says("Returns the points of the last team of the table, as a double, divided by those of the first one")
    static void promise25_is1IfAllHaveAsMany() {
        QuizFixtures x = Edges.staged(3);
        Edges.playAll(x, 3, false);
        edges.teams(x, 0, 2, 2, 2);
        close(x, 1.0);
    }

    @Says("Returns the points of the last team of the table, as a double, divided by those of the first one")
    static void promise25_is0IfTheLastHas0() {
        QuizFixtures x = Edges.staged(4);
        x.score(0, 1, 0);
        close(x, 0.0);
    }

    @Says("Returns the points of the last team of the table, as a double, divided by those of the first one")
    static void promise25_isBelow0IfTheLastIs() {
        QuizFixtures x = Edges.staged(4);
        x.walkover(0, true);
        close(x, -0.5);
        x.set(0, 1);
        close(x, -1.0);
        x.set(0, 5);
        close(x, -0.2);
        QuizFixtures y = Edges.staged(8);
        for (int other = 1; other < 8; other++) {
            int match = y.meeting(0, other);
            y.walkover(match, y.match(match, 2) == 0);
        }
        close(y, -3.5);
        y.set(0, 1);
        close(y, -7.0);
    }

    @Says("All numbers are integers, but for a share; divisions are rounded down.")
    static void promise25_isNotRounded() {
        QuizFixtures x = Edges.staged(3);
        x.score(0, 1, 0);
        x.score(1, 1, 1);
        x.score(2, 1, 1);
        // 1 has 3 points, 2 and 0 have 1 and 2.
        edges.teams(x, 0, 2, 3, 1);
        close(x, 1.0 / 3.0);
        x.set(0, 5);
        close(x, 1.0 / 6.0);
        x.set(1, 3);
        close(x, 3.0 / 8.0);
    }
}
