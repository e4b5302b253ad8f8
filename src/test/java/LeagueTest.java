/** Promises 1 to 9: a new object, begin, close, away, stage, score, walkover, annul, set. */
public final class LeagueTest {
    private static final Class<IndexOutOfBoundsException> NO_SUCH = IndexOutOfBoundsException.class;
    private static final Class<IllegalArgumentException> BAD = IllegalArgumentException.class;
    private static final Class<IllegalStateException> NOT_NOW = IllegalStateException.class;
    private static final int NONE = QuizFixtures.NONE;
    private static final Check check = new Check("LeagueTest");

    public static void main(String[] args) {
        aNewObject();
        beginMakesFixtures();
        beginForgetsAllButSettings();
        beginForgetsReasonsAndEachMask();
        beginRefuses();
        close();
        away();
        stageByLoads();
        stageKeepsResults();
        stageClearsAllFirst();
        stageTellsReasons();
        stageByLimitAndOwners();
        stageWithFewTeams();
        aSetterSetsOneMatchOfARound();
        aMatchWithoutSetterTakesNoVenue();
        score();
        walkover();
        annul();
        set();
        check.end();
    }

    private static void aNewObject() {
        QuizFixtures x = new QuizFixtures();
        long[] numbers = {4, 3, 6, 0, 0, 0, 0, 0, 0, 0};
        for (int what = 0; what < numbers.length; what++) {
            check.due("new: count(" + what + ")", x.count(what), numbers[what]);
        }
        int[] settings = {2, 1, 20, 9};
        for (int setting = 0; setting < settings.length; setting++) {
            check.due("new: setting(" + setting + ")", x.setting(setting), settings[setting]);
        }
        int[][] matches = {{0, 3, 0}, {0, 1, 2}, {1, 3, 1}, {1, 2, 0}, {2, 3, 2}, {2, 0, 1}};
        for (int match = 0; match < matches.length; match++) {
            for (int what = 0; what < 3; what++) {
                check.due("new: match(" + match + ", " + what + ")", x.match(match, what), matches[match][what]);
            }
            int[] rest = {NONE, NONE, 0, NONE, NONE, 0};
            for (int what = 3; what < 9; what++) {
                check.due("new: match(" + match + ", " + what + ")", x.match(match, what), rest[what - 3]);
            }
        }
        for (int number = 0; number < 6; number++) {
            check.due("new: close(" + number + ")", x.close(number, 0), 0);
            check.due("new: away(" + number + ")", x.away(number, 0), 0);
        }
        check.due("new: clearBuffer()", x.clearBuffer(), 0);
        check.refuses("new: undo()", new QuizFixtures(), NOT_NOW, () -> new QuizFixtures().undo());
    }

    private static void beginMakesFixtures() {
        int[] matches = {3, 6, 10, 15, 21, 28};
        int[] rounds = {3, 3, 5, 5, 7, 7};
        for (int teams = 3; teams <= 8; teams++) {
            QuizFixtures x = new QuizFixtures();
            check.due("begin(" + teams + ")", x.begin(teams), matches[teams - 3]);
            check.due("teams", x.count(0), teams);
            check.due("rounds", x.count(1), rounds[teams - 3]);
            check.due("matches", x.count(2), matches[teams - 3]);
            check.due("saved states", x.count(9), 1);
        }
        QuizFixtures five = new QuizFixtures();
        five.begin(5);
        int[][] ofFive = {{0, 1, 4}, {0, 2, 3}, {1, 2, 0}, {1, 3, 4}, {2, 3, 1}, {2, 4, 0}, {3, 4, 2}, {3, 0, 1},
            {4, 0, 3}, {4, 1, 2}};
        fixturesAre(five, ofFive);
        QuizFixtures eight = new QuizFixtures();
        eight.begin(8);
        int[][] ofEight = {{0, 7, 0}, {0, 1, 6}, {0, 2, 5}, {0, 3, 4}, {1, 7, 1}, {1, 2, 0}, {1, 3, 6}, {1, 4, 5}};
        fixturesAre(eight, ofEight);
        check.due("last of 8", eight.match(27, 1) * 10 + eight.match(27, 2), 23);
        check.due("last but one of 8", eight.match(26, 1) * 10 + eight.match(26, 2), 14);
    }

    private static void fixturesAre(QuizFixtures x, int[][] due) {
        for (int match = 0; match < due.length; match++) {
            for (int what = 0; what < 3; what++) {
                check.due("match(" + match + ", " + what + ")", x.match(match, what), due[match][what]);
            }
        }
    }

    private static void beginForgetsAllButSettings() {
        QuizFixtures x = new QuizFixtures();
        x.stage();
        x.score(0, 1, 2);
        x.walkover(1, true);
        x.close(5, 127);
        x.away(4, 7);
        x.set(0, 5);
        x.set(3, 1);
        Check.write(x, "1=");
        check.due("begin(4) again", x.begin(4), 6);
        check.due("results", x.count(4), 0);
        check.due("venues", x.count(3), 0);
        check.due("reason", x.match(5, 5), 0);
        check.due("setting 0 stays", x.setting(0), 5);
        check.due("setting 3 stays", x.setting(3), 1);
        check.due("close(5)", x.close(5, 0), 0);
        check.due("away(4)", x.away(4, 0), 0);
        check.due("buffer stays", x.clearBuffer(), 2);
        check.due("saved states", x.count(9), 6);
    }

    private static void beginForgetsReasonsAndEachMask() {
        QuizFixtures x = new QuizFixtures();
        for (int number = 0; number < 6; number++) {
            x.close(number, 127);
            x.away(number, 127);
        }
        x.stage();
        check.due("a reason", x.match(0, 5), 1);
        x.begin(4);
        for (int match = 0; match < 6; match++) {
            check.due("no reason", x.match(match, 5), 0);
        }
        for (int number = 0; number < 6; number++) {
            check.due("close(" + number + ")", x.close(number, 1), 0);
            check.due("away(" + number + ")", x.away(number, 1), 0);
        }
    }

    private static void beginRefuses() {
        QuizFixtures x = new QuizFixtures();
        for (int teams : new int[] {2, 9, 0, -1, Integer.MIN_VALUE, Integer.MAX_VALUE}) {
            check.refuses("begin(" + teams + ")", x, BAD, () -> x.begin(teams));
        }
    }

    private static void close() {
        QuizFixtures x = new QuizFixtures();
        x.stage();
        check.due("close(0, 127)", x.close(0, 127), 0);
        check.due("staged stays", x.match(1, 3), 0);
        check.due("close(0, 5)", x.close(0, 5), 127);
        check.due("close(0, 5) again", x.close(0, 5), 5);
        check.due("saved states", x.count(9), 4);
        check.due("close(5, 0)", x.close(5, 0), 0);
        for (int venue : new int[] {-1, 6, Integer.MAX_VALUE}) {
            check.refuses("close(" + venue + ", 1)", x, NO_SUCH, () -> x.close(venue, 1));
            check.refuses("close(" + venue + ", 128)", x, NO_SUCH, () -> x.close(venue, 128));
        }
        for (int rounds : new int[] {-1, 128, Integer.MIN_VALUE}) {
            check.refuses("close(0, " + rounds + ")", x, BAD, () -> x.close(0, rounds));
        }
        QuizFixtures y = new QuizFixtures();
        y.close(1, 1);
        y.stage();
        check.due("venue 1 is closed in round 0", y.match(0, 3), 2);
        y.close(1, 2);
        y.stage();
        check.due("venue 1 is open in round 0", y.match(0, 3), 1);
    }

    private static void away() {
        QuizFixtures x = new QuizFixtures();
        x.stage();
        check.due("away(1, 127)", x.away(1, 127), 0);
        check.due("staged stays", x.match(0, 4), 1);
        check.due("away(1, 5)", x.away(1, 5), 127);
        check.due("away(1, 5) again", x.away(1, 5), 5);
        check.due("saved states", x.count(9), 4);
        check.due("away(5, 0)", x.away(5, 0), 0);
        for (int setter : new int[] {-1, 6, Integer.MIN_VALUE}) {
            check.refuses("away(" + setter + ", 1)", x, NO_SUCH, () -> x.away(setter, 1));
            check.refuses("away(" + setter + ", -1)", x, NO_SUCH, () -> x.away(setter, -1));
        }
        for (int rounds : new int[] {-1, 128, Integer.MAX_VALUE}) {
            check.refuses("away(5, " + rounds + ")", x, BAD, () -> x.away(5, rounds));
        }
        QuizFixtures y = new QuizFixtures();
        y.away(1, 1);
        y.stage();
        check.due("setter 1 is away in round 0", y.match(0, 4), 2);
        y.away(1, 2);
        y.stage();
        check.due("setter 1 is there in round 0", y.match(0, 4), 1);
    }

    private static void stageByLoads() {
        QuizFixtures x = new QuizFixtures();
        check.due("stage()", x.stage(), 6);
        int[] venues = {1, 0, 2, 3, 4, 5};
        int[] setters = {1, 0, 2, 3, 4, 2};
        for (int match = 0; match < 6; match++) {
            check.due("venue of " + match, x.match(match, 3), venues[match]);
            check.due("setter of " + match, x.match(match, 4), setters[match]);
        }
        check.due("saved states", x.count(9), 1);
        check.due("stage() again", x.stage(), 6);
        check.due("saved states", x.count(9), 2);
        // The teams 6 and 7 are at home at the venues 0 and 1.
        QuizFixtures eight = new QuizFixtures();
        eight.begin(8);
        eight.stage();
        check.due("7 - 0 is not at 0 or 1", eight.match(0, 3), 2);
        check.due("1 - 6 is not at 0 or 1, nor where 7 - 0 is", eight.match(1, 3), 3);
        check.due("2 - 5 is at 0", eight.match(2, 3), 0);
        check.due("3 - 4 is at 1", eight.match(3, 3), 1);
    }

    private static void stageKeepsResults() {
        QuizFixtures x = new QuizFixtures();
        x.stage();
        x.score(0, 1, 0);
        for (int number = 0; number < 6; number++) {
            x.close(number, 127);
            x.away(number, 127);
        }
        check.due("nothing is to be had", x.stage(), 0);
        check.due("venue with a result", x.match(0, 3), 1);
        check.due("setter with a result", x.match(0, 4), 1);
        check.due("reason with a result", x.match(0, 5), 0);
        check.due("venue without", x.match(1, 3), NONE);
        check.due("setter without", x.match(1, 4), NONE);
        x.close(1, 0);
        x.away(1, 0);
        x.away(3, 0);
        // Venue 1 is taken in round 0, is at home with 3 - 1 and 0 - 1, and is free for 2 - 0 and 3 - 2.
        check.due("stage() beside a result", x.stage(), 2);
        check.due("1 - 2", x.match(1, 5), 1);
        check.due("3 - 1", x.match(2, 5), 1);
        check.due("2 - 0 by setter 3, who has fewer", x.match(3, 4), 3);
        check.due("3 - 2", x.match(4, 4), 1);
        check.due("0 - 1", x.match(5, 5), 1);
    }

    private static void stageClearsAllFirst() {
        QuizFixtures x = new QuizFixtures();
        x.stage();
        x.score(5, 3, 3);
        x.close(1, 127);
        check.due("stage()", x.stage(), 5);
        // Venue 5 counts one match from the start, that of match 5; the setter 2 likewise.
        int[] venues = {2, 0, 4, 3, 0, 5};
        int[] setters = {1, 0, 4, 3, 5, 2};
        for (int match = 0; match < 6; match++) {
            check.due("venue of " + match, x.match(match, 3), venues[match]);
            check.due("setter of " + match, x.match(match, 4), setters[match]);
        }
        x.annul(5);
        check.due("annulled", x.match(5, 3), 5);
        check.due("stage() without a result", x.stage(), 6);
        check.due("setter 2 has no match yet", x.match(2, 4), 2);
    }

    private static void stageTellsReasons() {
        QuizFixtures x = new QuizFixtures();
        for (int number = 0; number < 6; number++) {
            x.away(number, 127);
        }
        check.due("no setter", x.stage(), 0);
        check.due("reason", x.match(0, 5), 2);
        check.due("venue", x.match(0, 3), NONE);
        check.due("setter", x.match(0, 4), NONE);
        for (int number = 0; number < 6; number++) {
            x.close(number, 127);
        }
        check.due("neither", x.stage(), 0);
        check.due("the venue comes first", x.match(0, 5), 1);
        for (int number = 0; number < 6; number++) {
            x.close(number, 0);
            x.away(number, 0);
        }
        check.due("the reason stays until it is staged", x.match(0, 5), 1);
        check.due("all", x.stage(), 6);
        check.due("no reason", x.match(0, 5), 0);
    }

    private static void stageByLimitAndOwners() {
        QuizFixtures x = new QuizFixtures();
        x.set(3, 1);
        check.due("a match for each setter at most", x.stage(), 5);
        check.due("0 - 1: the setters 2 and 3 have one", x.match(5, 5), 2);
        check.due("the most of a setter", x.count(7), 1);
        QuizFixtures y = new QuizFixtures();
        for (int setter = 1; setter < 6; setter++) {
            y.away(setter, 127);
        }
        // The setter 0 belongs to the team 0.
        check.due("one setter", y.stage(), 3);
        check.due("3 - 0", y.match(0, 5), 2);
        check.due("1 - 2", y.match(1, 4), 0);
        y.set(3, 2);
        check.due("two at most", y.stage(), 2);
        check.due("3 - 2 is the third", y.match(4, 5), 2);
        y.score(1, 1, 1);
        y.score(2, 1, 1);
        check.due("those with a result count", y.stage(), 0);
    }

    private static void stageWithFewTeams() {
        // Of 3 teams, the setters 0 and 3 belong to the first one, 1 and 4 to the second, 2 and 5 to the third.
        QuizFixtures x = new QuizFixtures();
        x.begin(3);
        check.due("stage()", x.stage(), 3);
        check.due("1 - 2", x.match(0, 4), 0);
        check.due("2 - 0", x.match(1, 4), 1);
        check.due("0 - 1", x.match(2, 4), 2);
        x.away(0, 127);
        x.stage();
        check.due("1 - 2 without 0", x.match(0, 4), 3);
        x.away(3, 127);
        check.due("1 - 2 without 0 and 3", x.stage(), 2);
        check.due("1 - 2", x.match(0, 5), 2);
    }

    private static void aSetterSetsOneMatchOfARound() {
        QuizFixtures x = new QuizFixtures();
        x.begin(8);
        x.set(3, 28);
        for (int setter = 1; setter < 6; setter++) {
            x.away(setter, 127);
        }
        check.due("one match of each of 7 rounds", x.stage(), 7);
        for (int round = 0; round < 7; round++) {
            int match = x.busy(round, 6);
            check.due("the first one without team 0", match, firstOf(x, round));
        }
        // A match with a result keeps its setter from the others of its round.
        x.score(1, 3, 4);
        x.away(0, 126);
        check.due("setter 0 sets one of round 0 already", x.stage(), 0);
    }

    private static int firstOf(QuizFixtures x, int round) {
        for (int match = 4 * round; match < 4 * round + 4; match++) {
            if (x.match(match, 1) != 0 && x.match(match, 2) != 0) {
                return match;
            }
        }
        return NONE;
    }

    private static void aMatchWithoutSetterTakesNoVenue() {
        QuizFixtures x = new QuizFixtures();
        for (int number = 0; number < 5; number++) {
            x.close(number, 127);
        }
        for (int setter = 1; setter < 6; setter++) {
            x.away(setter, 127);
        }
        check.due("stage()", x.stage(), 3);
        check.due("3 - 0 has no setter", x.match(0, 5), 2);
        check.due("1 - 2 has the only venue", x.match(1, 3), 5);
        check.due("3 - 1 has it", x.match(2, 3), 5);
        check.due("2 - 0 has no venue", x.match(3, 5), 1);
    }

    private static void score() {
        QuizFixtures x = new QuizFixtures();
        check.refuses("score, not staged", x, NOT_NOW, () -> x.score(0, 1, 1));
        x.stage();
        check.due("score(0, 2, 1)", x.score(0, 2, 1), 2);
        check.due("score(2, 5, 5): 3 has 2 and 1", x.score(2, 5, 5), 3);
        check.due("score(0, 0, 99) in place of it", x.score(0, 0, 99), 1);
        check.due("team 0", x.team(0, 0), 2);
        check.due("first score", x.match(0, 6), 0);
        check.due("second score", x.match(0, 7), 99);
        check.due("result", x.match(0, 8), 1);
        check.due("results", x.count(4), 2);
        check.due("saved states", x.count(9), 4);
        check.due("score(0, 99, 0)", x.score(0, 99, 0), 3);
        check.due("a walkover replaced", x.walkover(0, false), 0);
        check.due("by scores", x.score(0, 1, 1), 2);
        for (int match : new int[] {-1, 6, 27, Integer.MAX_VALUE}) {
            check.refuses("score(" + match + ")", x, NO_SUCH, () -> x.score(match, 1, 1));
            check.refuses("score(" + match + ", 100)", x, NO_SUCH, () -> x.score(match, 100, 1));
        }
        for (int bad : new int[] {-1, 100, Integer.MIN_VALUE}) {
            check.refuses("score(0, " + bad + ", 1)", x, BAD, () -> x.score(0, bad, 1));
            check.refuses("score(0, 1, " + bad + ")", x, BAD, () -> x.score(0, 1, bad));
        }
        x.begin(4);
        check.refuses("a bad score is told ahead of no venue", x, BAD, () -> x.score(0, 1, 100));
        check.refuses("no venue after begin", x, NOT_NOW, () -> x.score(5, 0, 0));
    }

    private static void walkover() {
        QuizFixtures x = new QuizFixtures();
        check.refuses("walkover, not staged", x, NOT_NOW, () -> x.walkover(0, true));
        x.stage();
        check.due("walkover(0, false): team 3 loses a point", x.walkover(0, false), -1);
        check.due("result", x.match(0, 8), 2);
        check.due("score of 3", x.match(0, 6), 0);
        check.due("score of 0", x.match(0, 7), 20);
        check.due("points of 0", x.team(0, 0), 2);
        check.due("won", x.team(0, 2), 1);
        check.due("in place of it, walkover(0, true)", x.walkover(0, true), -1);
        check.due("result", x.match(0, 8), 3);
        check.due("score of 3", x.match(0, 6), 20);
        check.due("score of 0", x.match(0, 7), 0);
        check.due("points of 3", x.team(3, 0), 2);
        check.due("points of all matches", x.walkover(2, false), 1);
        x.set(2, 33);
        check.due("the score as it is", x.match(0, 6), 33);
        check.due("scores of 1", x.team(1, 4), 33);
        check.due("scores against 3", x.team(3, 5), 33);
        check.due("saved states", x.count(9), 5);
        for (int match : new int[] {-1, 6, Integer.MIN_VALUE}) {
            check.refuses("walkover(" + match + ")", x, NO_SUCH, () -> x.walkover(match, false));
        }
    }

    private static void annul() {
        QuizFixtures x = new QuizFixtures();
        check.due("annul(0), not staged", x.annul(0), 0);
        check.due("saved states", x.count(9), 1);
        x.stage();
        x.score(0, 7, 3);
        check.due("annul(0)", x.annul(0), 1);
        check.due("annul(0) again", x.annul(0), 0);
        check.due("venue stays", x.match(0, 3), 1);
        check.due("setter stays", x.match(0, 4), 1);
        check.due("first score", x.match(0, 6), NONE);
        check.due("second score", x.match(0, 7), NONE);
        check.due("result", x.match(0, 8), 0);
        check.due("points", x.team(3, 0), 0);
        check.due("saved states", x.count(9), 5);
        x.walkover(5, true);
        check.due("annul a walkover", x.annul(5), 1);
        check.due("walkovers", x.count(5), 0);
        for (int match : new int[] {-1, 6, Integer.MAX_VALUE}) {
            check.refuses("annul(" + match + ")", x, NO_SUCH, () -> x.annul(match));
        }
    }

    private static void set() {
        QuizFixtures x = new QuizFixtures();
        int[] first = {2, 1, 20, 9};
        int[] low = {1, 0, 1, 1};
        int[] high = {5, 3, 50, 28};
        for (int setting = 0; setting < 4; setting++) {
            int at = setting;
            check.due("set to its least", x.set(setting, low[setting]), first[setting]);
            check.due("set to its greatest", x.set(setting, high[setting]), low[setting]);
            check.due("setting", x.setting(setting), high[setting]);
            check.refuses("set(" + at + ", too low)", x, BAD, () -> x.set(at, low[at] - 1));
            check.refuses("set(" + at + ", too high)", x, BAD, () -> x.set(at, high[at] + 1));
        }
        for (int setting : new int[] {-1, 4, Integer.MAX_VALUE}) {
            check.refuses("set(" + setting + ", 1)", x, NO_SUCH, () -> x.set(setting, 1));
            check.refuses("set(" + setting + ", 99)", x, NO_SUCH, () -> x.set(setting, 99));
        }
        QuizFixtures y = new QuizFixtures();
        y.stage();
        y.score(0, 2, 1);
        y.score(2, 1, 1);
        y.set(0, 5);
        check.due("points by the settings as they are", y.team(3, 0), 6);
        y.set(1, 3);
        check.due("points for equal scores", y.team(3, 0), 8);
        check.due("of the other, too", y.team(1, 0), 3);
        y.set(3, 1);
        check.due("what is staged stays", y.count(3), 6);
        check.due("saved states", y.count(9), 6);
    }
}
