/** Promises 15 to 20: match, team, table, busy, count, setting. */
public final class LooksTest {
    private static final Class<IndexOutOfBoundsException> NO_SUCH = IndexOutOfBoundsException.class;
    private static final Class<IllegalArgumentException> BAD = IllegalArgumentException.class;
    private static final int NONE = QuizFixtures.NONE;
    private static final int[] WRONG_NUMBERS = {-1, 12, Integer.MIN_VALUE, Integer.MAX_VALUE};
    private static final Check check = new Check("LooksTest");

    public static void main(String[] args) {
        match();
        team();
        tableByPoints();
        tableByDifference();
        tableByScores();
        tableByNumber();
        tableRefuses();
        looksFollowEachChange();
        busy();
        count();
        setting();
        check.end();
    }

    private static QuizFixtures played() {
        QuizFixtures x = new QuizFixtures();
        x.stage();
        x.score(0, 20, 10);
        x.score(1, 5, 5);
        x.walkover(2, true);
        return x;
    }

    private static void match() {
        QuizFixtures x = played();
        x.walkover(3, false);
        x.close(4, 127);
        x.close(0, 127);
        x.close(1, 127);
        x.close(5, 3);
        x.away(2, 127);
        x.away(3, 127);
        x.stage();
        int[][] due = {
            {0, 3, 0, 1, 1, 0, 20, 10, 1},
            {0, 1, 2, 0, 0, 0, 5, 5, 1},
            {1, 3, 1, 2, 2, 0, 20, 0, 3},
            {1, 2, 0, 3, 3, 0, 0, 20, 2},
            {2, 3, 2, 5, 4, 0, NONE, NONE, 0},
            {2, 0, 1, NONE, NONE, 2, NONE, NONE, 0}};
        for (int match = 0; match < due.length; match++) {
            int at = match;
            for (int what = 0; what < 9; what++) {
                int property = what;
                check.looks("match(" + match + ", " + what + ")", x, due[match][what], () -> x.match(at, property));
            }
        }
        x.close(5, 127);
        x.stage();
        check.due("no venue for 3 - 2", x.match(4, 5), 1);
        for (int match : new int[] {-1, 6, 27, 28, Integer.MIN_VALUE, Integer.MAX_VALUE}) {
            check.refuses("match(" + match + ", 0)", x, NO_SUCH, () -> x.match(match, 0));
            check.refuses("match(" + match + ", 9)", x, NO_SUCH, () -> x.match(match, 9));
        }
        for (int what : new int[] {-1, 9, Integer.MIN_VALUE, Integer.MAX_VALUE}) {
            check.refuses("match(0, " + what + ")", x, BAD, () -> x.match(0, what));
        }
    }

    private static void team() {
        QuizFixtures x = played();
        int[][] due = {
            {0, 1, 0, 0, 10, 20, 0, 2, 2},
            {0, 2, 0, 1, 5, 25, 1, 3, 1},
            {1, 1, 0, 1, 5, 5, 0, 1, 2},
            {4, 2, 2, 0, 40, 10, 0, 0, 1}};
        for (int team = 0; team < due.length; team++) {
            int at = team;
            for (int what = 0; what < 9; what++) {
                int property = what;
                check.looks("team(" + team + ", " + what + ")", x, due[team][what], () -> x.team(at, property));
            }
        }
        for (int team : new int[] {-1, 4, 7, 8, Integer.MIN_VALUE, Integer.MAX_VALUE}) {
            check.refuses("team(" + team + ", 0)", x, NO_SUCH, () -> x.team(team, 0));
            check.refuses("team(" + team + ", -1)", x, NO_SUCH, () -> x.team(team, -1));
        }
        for (int what : new int[] {-1, 9, Integer.MIN_VALUE, Integer.MAX_VALUE}) {
            check.refuses("team(0, " + what + ")", x, BAD, () -> x.team(0, what));
        }
    }

    private static void tableIs(QuizFixtures x, int... due) {
        for (int place = 0; place < due.length; place++) {
            int at = place;
            check.looks("table(" + place + ")", x, due[place], () -> x.table(at));
            check.due("place of " + due[place], x.team(due[place], 7), place);
        }
        check.due("behind the last one", x.table(due.length), NONE);
    }

    private static void tableByPoints() {
        QuizFixtures x = new QuizFixtures();
        tableIs(x, 0, 1, 2, 3);
        tableIs(played(), 3, 2, 0, 1);
        // More points go ahead of the greater difference: 3 - 0, 1 - 2, 3 - 1.
        x.stage();
        x.score(0, 99, 0);
        x.score(1, 1, 0);
        x.score(2, 0, 1);
        tableIs(x, 1, 3, 2, 0);
        x.begin(8);
        tableIs(x, 0, 1, 2, 3, 4, 5, 6, 7);
    }

    private static void tableByDifference() {
        // 3 - 0 and 1 - 2: 3 and 1 have 2 points each, 1 has more scores, 3 the greater difference.
        QuizFixtures x = new QuizFixtures();
        x.stage();
        x.score(0, 10, 1);
        x.score(1, 50, 49);
        tableIs(x, 3, 1, 2, 0);
    }

    private static void tableByScores() {
        QuizFixtures x = new QuizFixtures();
        x.stage();
        x.score(0, 3, 2);
        x.score(1, 2, 1);
        tableIs(x, 3, 1, 0, 2);
        x.score(0, 5, 5);
        x.score(1, 6, 6);
        tableIs(x, 1, 2, 0, 3);
    }

    private static void tableByNumber() {
        QuizFixtures x = new QuizFixtures();
        x.stage();
        x.score(0, 4, 1);
        x.score(1, 4, 1);
        tableIs(x, 1, 3, 0, 2);
    }

    private static void tableRefuses() {
        QuizFixtures x = new QuizFixtures();
        for (int place : new int[] {-1, Integer.MIN_VALUE}) {
            check.refuses("table(" + place + ")", x, BAD, () -> x.table(place));
        }
        for (int place : new int[] {4, 7, 8, 9, Integer.MAX_VALUE}) {
            check.looks("table(" + place + ")", x, NONE, () -> x.table(place));
        }
    }

    /** Each change by a call that answers no points, each look by itself, with no other call between. */
    private static void looksFollowEachChange() {
        QuizFixtures x = played();
        x.annul(0);
        check.due("team(3, 0) behind annul", x.team(3, 0), 2);
        x.set(0, 5);
        check.due("team(3, 0) behind set", x.team(3, 0), 5);
        x.set(1, 3);
        check.due("count(6) behind set", x.count(6), 10);
        x.undo();
        check.due("count(6) behind undo", x.count(6), 6);
        x.set(1, 3);
        x.annul(2);
        check.due("table(0) behind annul", x.table(0), 1);
        Check.write(x, "0=0:1");
        x.report();
        check.due("team(0, 2) behind report", x.team(0, 2), 1);
        x.begin(4);
        check.due("count(6) behind begin", x.count(6), 0);
        x.undo();
        check.due("table(0) behind undo", x.table(0), 0);
    }

    private static void busy() {
        QuizFixtures x = new QuizFixtures();
        check.due("not staged", x.busy(0, 0), NONE);
        x.stage();
        int[] venues = {1, 0, 2, 3, 4, 5};
        int[] setters = {1, 0, 2, 3, 4, 2};
        for (int round = 0; round < 3; round++) {
            for (int number = 0; number < 12; number++) {
                int[] row = number < 6 ? venues : setters;
                int want = NONE;
                for (int match = 2 * round; match < 2 * round + 2; match++) {
                    want = row[match] == number % 6 ? match : want;
                }
                int r = round;
                int n = number;
                check.looks("busy(" + round + ", " + number + ")", x, want, () -> x.busy(r, n));
            }
        }
        for (int round : new int[] {-1, 3, 7, Integer.MIN_VALUE, Integer.MAX_VALUE}) {
            check.refuses("busy(" + round + ", 0)", x, NO_SUCH, () -> x.busy(round, 0));
            check.refuses("busy(" + round + ", 12)", x, NO_SUCH, () -> x.busy(round, 12));
        }
        for (int number : WRONG_NUMBERS) {
            check.refuses("busy(0, " + number + ")", x, BAD, () -> x.busy(0, number));
        }
        x.begin(8);
        check.due("the last round of 8 teams", x.busy(6, 0), NONE);
        check.refuses("busy(7, 0) of 8 teams", x, NO_SUCH, () -> x.busy(7, 0));
        x.begin(5);
        check.due("the last round of 5 teams", x.busy(4, 0), NONE);
        check.refuses("busy(5, 0) of 5 teams", x, NO_SUCH, () -> x.busy(5, 0));
    }

    private static void counts(QuizFixtures x, int... due) {
        for (int what = 0; what < due.length; what++) {
            int number = what;
            check.looks("count(" + what + ")", x, due[what], () -> x.count(number));
        }
    }

    private static void count() {
        QuizFixtures x = played();
        counts(x, 4, 3, 6, 6, 3, 1, 5, 2, 1, 4);
        x.walkover(0, true);
        counts(x, 4, 3, 6, 6, 3, 2, 4, 2, 1, 5);
        x.begin(7);
        counts(x, 7, 7, 21, 0, 0, 0, 0, 0, 0, 6);
        x.set(3, 28);
        x.begin(8);
        x.stage();
        counts(x, 8, 7, 28, 28, 0, 0, 0, 5, 5, 6);
        x.begin(3);
        for (int number = 1; number < 6; number++) {
            x.close(number, 127);
            x.away(number, 127);
        }
        // The venue 0 and the setter 0 are for 1 - 2 alone.
        x.stage();
        counts(x, 3, 3, 3, 1, 0, 0, 0, 1, 1, 6);
        for (int what : new int[] {-1, 10, Integer.MIN_VALUE, Integer.MAX_VALUE}) {
            check.refuses("count(" + what + ")", x, BAD, () -> x.count(what));
        }
    }

    private static void setting() {
        QuizFixtures x = new QuizFixtures();
        int[] due = {2, 1, 20, 9};
        for (int setting = 0; setting < 4; setting++) {
            int at = setting;
            check.looks("setting(" + setting + ")", x, due[setting], () -> x.setting(at));
            x.set(setting, 3);
            check.looks("setting(" + setting + ")", x, 3, () -> x.setting(at));
        }
        for (int setting : new int[] {-1, 4, Integer.MIN_VALUE, Integer.MAX_VALUE}) {
            check.refuses("setting(" + setting + ")", x, NO_SUCH, () -> x.setting(setting));
        }
    }
}
