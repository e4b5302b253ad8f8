/** Promises 21 to 25: meeting, bestPlace, isSure, ifMissing, closeness. */
public final class WouldBeTest {
    private static final Class<IndexOutOfBoundsException> NO_SUCH = IndexOutOfBoundsException.class;
    private static final Class<IllegalArgumentException> BAD = IllegalArgumentException.class;
    private static final int[] WRONG_TEAMS = {-1, 4, 8, Integer.MIN_VALUE, Integer.MAX_VALUE};
    private static final Check check = new Check("WouldBeTest");

    public static void main(String[] args) {
        meeting();
        bestPlace();
        bestPlaceCountsAgainstOthers();
        bestPlaceTakesTheFirstMatch();
        bestPlaceTakes99To0();
        isSure();
        isSureByPointsAlone();
        looksFollowEachChange();
        ifMissing();
        ifMissingKeepsResults();
        closeness();
        check.end();
    }

    private static void meeting() {
        for (int teams = 3; teams <= 8; teams++) {
            QuizFixtures x = new QuizFixtures();
            x.begin(teams);
            for (int match = 0; match < x.count(2); match++) {
                int first = x.match(match, 1);
                int second = x.match(match, 2);
                int due = match;
                check.looks("meeting(" + first + ", " + second + ")", x, due, () -> x.meeting(first, second));
                check.looks("meeting(" + second + ", " + first + ")", x, due, () -> x.meeting(second, first));
            }
        }
        QuizFixtures x = new QuizFixtures();
        check.due("meeting(2, 0)", x.meeting(2, 0), 3);
        check.due("meeting(0, 1)", x.meeting(0, 1), 5);
        for (int wrong : WRONG_TEAMS) {
            check.refuses("meeting(" + wrong + ", 0)", x, NO_SUCH, () -> x.meeting(wrong, 0));
            check.refuses("meeting(0, " + wrong + ")", x, NO_SUCH, () -> x.meeting(0, wrong));
            check.refuses("meeting(" + wrong + ", " + wrong + ")", x, NO_SUCH, () -> x.meeting(wrong, wrong));
        }
        for (int team = 0; team < 4; team++) {
            int same = team;
            check.refuses("meeting(" + team + ", " + team + ")", x, BAD, () -> x.meeting(same, same));
        }
    }

    private static void best(QuizFixtures x, int... due) {
        for (int team = 0; team < due.length; team++) {
            int at = team;
            check.looks("bestPlace(" + team + ")", x, due[team], () -> x.bestPlace(at));
        }
    }

    private static void bestPlace() {
        QuizFixtures x = new QuizFixtures();
        best(x, 0, 0, 0, 0);
        x.stage();
        x.score(0, 20, 10);
        x.score(1, 5, 5);
        x.walkover(2, true);
        best(x, 0, 1, 0, 0);
        x.score(5, 99, 0);
        best(x, 0, 3, 0, 0);
        for (int team : WRONG_TEAMS) {
            check.refuses("bestPlace(" + team + ")", x, NO_SUCH, () -> x.bestPlace(team));
        }
        QuizFixtures unstaged = new QuizFixtures();
        for (int number = 0; number < 6; number++) {
            unstaged.close(number, 127);
        }
        unstaged.stage();
        best(unstaged, 0, 0, 0, 0);
    }

    private static void bestPlaceCountsAgainstOthers() {
        // Of 3 teams 1 - 2 and 2 - 0 are played, 0 - 1 is open.
        QuizFixtures x = new QuizFixtures();
        x.begin(3);
        x.stage();
        x.score(0, 0, 99);
        x.score(1, 0, 1);
        // By winning, team 1 has 2 points and the difference 0, team 2 has 2 and 98, team 0 falls to -98.
        best(x, 0, 1, 0);
        x.score(0, 98, 0);
        x.score(1, 98, 0);
        // By winning, team 0 has 2 points and the difference 1, team 1 falls from 98 to -1, team 2 has 0.
        best(x, 0, 0, 1);
        x.score(0, 2, 0);
        // Team 2 has the difference 96 now.
        best(x, 1, 0, 0);
    }

    private static void bestPlaceTakesTheFirstMatch() {
        // Of 3 teams 2 - 0 and 0 - 1 are played, 1 - 2, the match 0, is open.
        QuizFixtures x = new QuizFixtures();
        x.begin(3);
        x.stage();
        x.score(1, 0, 50);
        x.score(2, 0, 48);
        // By winning, team 2 has 2 points and the difference 49, team 1 falls from 48 to -51, team 0 has 2.
        best(x, 1, 0, 0);
        x.score(1, 0, 97);
        x.score(2, 94, 97);
        // By winning, team 2 has 2 points and the difference 2, team 0 has 94.
        best(x, 0, 0, 1);
    }

    /** With 3 points and 99 to 0 as team 2 has, a team is ahead by its number; a point less, and it is not. */
    private static void bestPlaceTakes99To0() {
        QuizFixtures first = new QuizFixtures();
        first.begin(3);
        first.stage();
        // 0 - 1 is open: team 0 would win as the first team.
        first.score(0, 0, 99);
        first.score(1, 0, 0);
        best(first, 0, 1, 0);
        QuizFixtures second = new QuizFixtures();
        second.begin(3);
        second.stage();
        // 0 - 1 is open: team 1 would win as the second team.
        second.score(0, 0, 0);
        second.score(1, 99, 0);
        best(second, 1, 0, 0);
    }

    private static void sure(QuizFixtures x, int... due) {
        for (int team = 0; team < due.length; team++) {
            int at = team;
            check.looks("isSure(" + team + ")", x, due[team], () -> x.isSure(at));
        }
    }

    private static void isSure() {
        QuizFixtures x = new QuizFixtures();
        sure(x, 0, 0, 0, 0);
        x.begin(3);
        x.stage();
        x.score(1, 0, 1);
        x.score(2, 1, 0);
        // Team 0 has 4 points; 1 and 2 have 0 and can have 2.
        sure(x, 1, 0, 0);
        x.set(0, 1);
        sure(x, 1, 0, 0);
        x.annul(2);
        sure(x, 0, 0, 0);
        x.walkover(2, true);
        sure(x, 1, 0, 0);
        for (int team : WRONG_TEAMS) {
            check.refuses("isSure(" + team + ")", x, NO_SUCH, () -> x.isSure(team));
        }
        check.refuses("isSure(3) of 3 teams", x, NO_SUCH, () -> x.isSure(3));
    }

    private static void isSureByPointsAlone() {
        QuizFixtures x = new QuizFixtures();
        x.begin(3);
        x.stage();
        // 1 - 2, 2 - 0 and 0 - 1: as many points are enough against it, whatever the difference is.
        x.score(0, 0, 9);
        x.score(1, 9, 0);
        x.score(2, 9, 0);
        sure(x, 0, 0, 1);
        x.annul(1);
        sure(x, 0, 0, 0);
        x.score(1, 5, 5);
        // 3 points each of 0 and 2.
        sure(x, 0, 0, 0);
        // A team that won its matches may be reached by one without a venue, too.
        QuizFixtures y = new QuizFixtures();
        y.begin(3);
        y.stage();
        y.score(1, 1, 0);
        for (int number = 0; number < 6; number++) {
            y.close(number, 127);
        }
        y.stage();
        sure(y, 0, 0, 0);
        // Equal scores may be given more than winning; what is asked is winning alone.
        QuizFixtures z = new QuizFixtures();
        z.begin(3);
        z.stage();
        z.set(0, 1);
        z.set(1, 3);
        z.score(1, 2, 2);
        // 2 and 0 have 3, 1 can have 2.
        sure(z, 0, 0, 0);
        z.score(2, 1, 0);
        // 0 has 4, 2 has 3 and can have 4.
        sure(z, 0, 0, 0);
        z.score(0, 1, 0);
        sure(z, 1, 0, 0);
        z.annul(0);
        z.score(2, 2, 2);
        // 0 has 6, 2 and 1 have 3 and can have 4, though 6 by equal scores.
        sure(z, 1, 0, 0);
    }

    /** Each change by a call that answers no points, each look by itself, with no other call between. */
    private static void looksFollowEachChange() {
        QuizFixtures x = new QuizFixtures();
        x.begin(3);
        x.stage();
        x.score(1, 0, 1);
        x.score(2, 1, 0);
        x.annul(2);
        check.due("isSure(0) behind annul", x.isSure(0), 0);
        x.undo();
        check.due("isSure(0) behind undo", x.isSure(0), 1);
        x.annul(2);
        x.score(0, 5, 5);
        check.dueDouble("closeness() behind a score", x.closeness(), 0.5);
        x.set(0, 4);
        check.dueDouble("closeness() behind set", x.closeness(), 0.25);
        x.undo();
        check.dueDouble("closeness() behind undo", x.closeness(), 0.5);
        x.annul(1);
        check.due("bestPlace(0) behind annul", x.bestPlace(0), 0);
        long annulled = x.digest();
        x.undo();
        x.annul(1);
        check.due("digest() behind annul", x.digest(), annulled);
    }

    private static void missing(QuizFixtures x, int... due) {
        for (int number = 0; number < due.length; number++) {
            int at = number;
            check.looks("ifMissing(" + number + ")", x, due[number], () -> x.ifMissing(at));
        }
    }

    private static void ifMissing() {
        QuizFixtures x = new QuizFixtures();
        missing(x, 6, 6, 6, 6, 6, 6, 6, 6, 6, 6, 6, 6);
        for (int number = 0; number < 4; number++) {
            x.close(number, 127);
        }
        missing(x, 6, 6, 6, 6, 3, 3, 6, 6, 6, 6, 6, 6);
        x.close(5, 127);
        missing(x, 3, 3, 3, 3, 0, 3, 3, 3, 3, 3, 3, 3);
        check.due("nothing is staged by it", x.count(3), 0);
        QuizFixtures one = new QuizFixtures();
        for (int number = 1; number < 6; number++) {
            one.close(number, 127);
            one.away(number, 127);
        }
        // The venue 0 is neutral for 1 - 2, 3 - 1 and 3 - 2, and the setter 0 may set them.
        missing(one, 0, 3, 3, 3, 3, 3, 0, 3, 3, 3, 3, 3);
        QuizFixtures y = new QuizFixtures();
        y.begin(8);
        y.set(3, 1);
        missing(y, 6, 6, 6, 6, 6, 6, 5, 5, 5, 5, 5, 5);
        y.away(0, 127);
        missing(y, 5, 5, 5, 5, 5, 5, 5, 4, 4, 4, 4, 4);
        for (int number : new int[] {-1, 12, Integer.MIN_VALUE, Integer.MAX_VALUE}) {
            check.refuses("ifMissing(" + number + ")", x, BAD, () -> x.ifMissing(number));
        }
    }

    private static void ifMissingKeepsResults() {
        QuizFixtures x = new QuizFixtures();
        x.stage();
        x.score(0, 20, 10);
        x.score(1, 5, 5);
        x.walkover(2, true);
        missing(x, 3, 3, 3, 3, 3, 3, 3, 3, 3, 3, 3, 3);
        for (int number = 0; number < 6; number++) {
            x.away(number, 127);
        }
        missing(x, 0, 0, 0, 0, 0, 0, 0, 0, 0, 0, 0, 0);
        check.due("what is staged stays", x.count(3), 6);
        check.due("and is no saved state", x.count(9), 6);
    }

    private static void close(QuizFixtures x, double due) {
        long before = x.digest();
        check.dueDouble("closeness()", x.closeness(), due);
        check.due("closeness() changes nothing", x.digest(), before);
    }

    private static void closeness() {
        QuizFixtures x = new QuizFixtures();
        close(x, 1.0);
        x.begin(3);
        x.stage();
        x.score(0, 1, 0);
        close(x, 0.0);
        x.score(1, 2, 2);
        close(x, 0.5);
        x.score(2, 3, 3);
        close(x, 1.0 / 3.0);
        x.set(1, 0);
        close(x, 0.0);
        x.set(1, 1);
        x.walkover(0, false);
        x.walkover(1, false);
        x.walkover(2, true);
        close(x, -0.5);
        x.begin(3);
        x.stage();
        x.walkover(0, true);
        x.set(0, 1);
        close(x, -1.0);
        x.set(1, 0);
        x.walkover(1, true);
        x.walkover(2, true);
        close(x, 1.0);
        QuizFixtures noPoints = new QuizFixtures();
        noPoints.stage();
        noPoints.set(1, 0);
        noPoints.score(0, 1, 1);
        close(noPoints, 1.0);
        QuizFixtures thirds = new QuizFixtures();
        thirds.stage();
        thirds.set(0, 3);
        thirds.score(0, 1, 0);
        thirds.score(1, 1, 1);
        thirds.score(5, 0, 0);
        close(thirds, 1.0 / 3.0);
    }
}
