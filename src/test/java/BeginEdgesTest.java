/** The edges of the promises 1 to 4: a new object, begin, close, away. */
public final class BeginEdgesTest {
    private static final Check check = new Check("BeginEdgesTest");
    private static final Edges edges = new Edges(check);

    public static void main(String[] args) {
        check.runTestsOf(BeginEdgesTest.class);
        check.end();
    }

    // ---- a new object

    @Says({"Creates a league of 4 teams that is not staged, with an empty buffer.",
        "There are as many teams as a league is begun with, 3 to 8, at first 4, numbered from 0."})
    static void promise01_has4Teams() {
        QuizFixtures x = new QuizFixtures();
        check.due("count(0)", x.count(0), 4);
        check.due("count(2)", x.count(2), 6);
        check.due("the last team", x.team(3, 8), 3);
        check.refuses("one more team", x, Edges.NO_SUCH, () -> x.team(4, 8));
    }

    @Says("Creates a league of 4 teams that is not staged, with an empty buffer.")
    static void promise01_isNotStaged() {
        QuizFixtures x = new QuizFixtures();
        check.due("count(3)", x.count(3), 0);
        edges.properties(x, 3, -1, -1, -1, -1, -1, -1);
        edges.properties(x, 4, -1, -1, -1, -1, -1, -1);
        edges.properties(x, 5, 0, 0, 0, 0, 0, 0);
        edges.properties(x, 8, 0, 0, 0, 0, 0, 0);
        check.refuses("a score", x, Edges.NOT_NOW, () -> x.score(0, 1, 1));
    }

    @Says("Creates a league of 4 teams that is not staged, with an empty buffer.")
    static void promise01_hasAnEmptyBuffer() {
        check.due("firstError()", new QuizFixtures().firstError(), 0);
        check.due("clearBuffer()", new QuizFixtures().clearBuffer(), 0);
        check.due("append('0')", new QuizFixtures().append('0'), 1);
        edges.refused("report()", QuizFixtures::new, Edges.BAD, x -> x.report());
    }

    @Says("Throws `IllegalStateException` if there is none")
    static void promise01_hasNoSavedState() {
        check.due("count(9)", new QuizFixtures().count(9), 0);
        edges.refused("undo()", QuizFixtures::new, Edges.NOT_NOW, x -> x.undo());
    }

    @Says({"0: points for winning, 1 to 5, at first 2", "1: points for equal scores, 0 to 3, at first 1",
        "2: the score of a walkover, 1 to 50, at first 20", "3: the most matches of a setter, 1 to 28, at first 9"})
    static void promise01_hasTheSettingsAtFirst() {
        int[] atFirst = {2, 1, 20, 9};
        for (int setting = 0; setting < 4; setting++) {
            check.due("setting(" + setting + ")", new QuizFixtures().setting(setting), atFirst[setting]);
        }
    }

    @Says("A venue can be closed, a setter can be away, in some rounds.")
    static void promise01_hasAllVenuesOpenAndAllSettersThere() {
        for (int number = 0; number < 6; number++) {
            check.due("close(" + number + ")", new QuizFixtures().close(number, 1), 0);
            check.due("away(" + number + ")", new QuizFixtures().away(number, 1), 0);
        }
    }

    @Says("`NONE = -1`: There is nothing to return.")
    static void promise01_noneIsMinus1() {
        check.due("NONE", QuizFixtures.NONE, -1);
    }

    @Says("An object is used for at most 512 calls after it has been made; what later calls answer is free.")
    static void promise01_answers512Calls() {
        QuizFixtures x = new QuizFixtures();
        int due = 20;
        for (int call = 1; call <= 504; call++) {
            int value = 1 + call % 50;
            check.due("call " + call, x.set(2, value), due);
            due = value;
        }
        for (int left = 5; left >= 0; left--) {
            check.due("undo()", x.undo(), left);
        }
        check.due("the 511th call", x.setting(2), 1 + 498 % 50);
        check.dueThrown("the 512th call", Edges.NOT_NOW, () -> x.undo());
    }

    @Says("An object is used for at most 512 calls after it has been made; what later calls answer is free.")
    static void promise01_refuses512Calls() {
        QuizFixtures x = new QuizFixtures();
        for (int call = 1; call <= 511; call++) {
            check.dueThrown("call " + call, Edges.NO_SUCH, () -> x.set(4, 1));
        }
        check.due("the 512th call", x.digest(), new QuizFixtures().digest());
    }

    @Says("Creates a league of 4 teams that is not staged, with an empty buffer.")
    static void promise01_objectsHaveNothingInCommon() {
        QuizFixtures quiet = new QuizFixtures();
        long before = quiet.digest();
        QuizFixtures busy = Edges.inTheMidst();
        busy.begin(8);
        busy.stage();
        busy.clearBuffer();
        Check.write(busy, Edges.FULL_AND_COMPLETE);
        busy.report();
        check.due("the other object", quiet.digest(), before);
        check.due("a later object", new QuizFixtures().digest(), before);
    }

    // ---- begin

    @Says({"`teams`: 3 to 8", "Throws `IllegalArgumentException` if teams is out of range"})
    static void promise02_3TeamsAreTheFewest() {
        QuizFixtures x = new QuizFixtures();
        check.due("begin(3)", x.begin(3), 3);
        check.due("count(0)", x.count(0), 3);
        edges.refused("begin(2)", Edges.BAD, y -> y.begin(2));
    }

    @Says({"`teams`: 3 to 8", "Throws `IllegalArgumentException` if teams is out of range"})
    static void promise02_8TeamsAreTheMost() {
        QuizFixtures x = new QuizFixtures();
        check.due("begin(8)", x.begin(8), 28);
        check.due("count(0)", x.count(0), 8);
        edges.refused("begin(9)", Edges.BAD, y -> y.begin(9));
    }

    @Says("Throws `IllegalArgumentException` if teams is out of range")
    static void promise02_refusesNumbersFarOutside() {
        for (int teams : new int[] {0, -3, 3 + 256, Integer.MIN_VALUE, Integer.MAX_VALUE}) {
            edges.refused("begin(" + teams + ")", Edges.BAD, x -> x.begin(teams));
        }
    }

    @Says("Returns how many matches there are.")
    static void promise02_returnsTheMatchesOfEachNumberOfTeams() {
        for (int teams = 3; teams <= 8; teams++) {
            QuizFixtures x = new QuizFixtures();
            check.due("begin(" + teams + ")", x.begin(teams), Edges.MATCHES[teams]);
            check.due("count(2)", x.count(2), Edges.MATCHES[teams]);
        }
    }

    @Says({"Let m be the number of teams, or 1 more if that is odd.", "There are m - 1 rounds, numbered from 0."})
    static void promise02_anOddNumberOfTeamsHasAsManyRoundsAsOneMore() {
        for (int teams = 3; teams <= 8; teams++) {
            check.due("rounds of " + teams, Edges.league(teams).count(1), Edges.ROUNDS[teams]);
        }
    }

    @Says("otherwise (r + i) % (m - 1) and (r - i + m - 1) % (m - 1).")
    static void promise02_theFixturesOf3Teams() {
        QuizFixtures x = Edges.league(3);
        edges.properties(x, 0, 0, 1, 2);
        edges.properties(x, 1, 1, 2, 0);
        edges.properties(x, 2, 2, 0, 1);
        check.refuses("one match more", x, Edges.NO_SUCH, () -> x.match(3, 0));
    }

    @Says({"for each i from 0 to m / 2 - 1 there is a pair: with i as 0: m - 1 and r;",
        "If both numbers are teams, they have a match, the first one as the first team;",
        "Matches are numbered from 0, by rounds, in a round by i."})
    static void promise02_theFixturesOf8Teams() {
        QuizFixtures x = Edges.league(8);
        edges.properties(x, 0, 0, 0, 0, 0, 1, 1, 1, 1, 2, 2, 2, 2, 3, 3, 3, 3, 4, 4, 4, 4, 5, 5, 5, 5, 6, 6, 6, 6);
        edges.properties(x, 1, 7, 1, 2, 3, 7, 2, 3, 4, 7, 3, 4, 5, 7, 4, 5, 6, 7, 5, 6, 0, 7, 6, 0, 1, 7, 0, 1, 2);
        edges.properties(x, 2, 0, 6, 5, 4, 1, 0, 6, 5, 2, 1, 0, 6, 3, 2, 1, 0, 4, 3, 2, 1, 5, 4, 3, 2, 6, 5, 4, 3);
        check.refuses("one match more", x, Edges.NO_SUCH, () -> x.match(28, 0));
    }

    @Says("otherwise (r + i) % (m - 1) and (r - i + m - 1) % (m - 1).")
    static void promise02_pairsWrapAroundInTheFirstAndTheLastRound() {
        QuizFixtures six = Edges.league(6);
        check.due("round 0, i 2: the second is 0 - 2 + 5", six.match(2, 2), 3);
        check.due("round 4, i 1: the first is 5 % 5", six.match(13, 1), 0);
        check.due("round 4, i 2: the first is 6 % 5", six.match(14, 1), 1);
        check.due("round 4, i 2: the second does not wrap", six.match(14, 2), 2);
    }

    @Says("the team that is paired with a number that is no team is free.")
    static void promise02_eachTeamOfAnOddNumberIsFreeOnce() {
        for (int teams = 3; teams <= 7; teams += 2) {
            QuizFixtures x = Edges.league(teams);
            for (int round = 0; round < teams; round++) {
                int playing = 0;
                for (int match = 0; match < Edges.MATCHES[teams]; match++) {
                    if (x.match(match, 0) == round) {
                        playing |= 1 << x.match(match, 1) | 1 << x.match(match, 2);
                    }
                }
                check.due("those playing in round " + round, playing, (1 << teams) - 1 - (1 << round));
            }
        }
    }

    @Says("(So each two teams meet once.)")
    static void promise02_eachTwoTeamsMeetOnce() {
        for (int teams = 3; teams <= 8; teams++) {
            QuizFixtures x = Edges.league(teams);
            long met = 0;
            for (int match = 0; match < Edges.MATCHES[teams]; match++) {
                int first = x.match(match, 1);
                int second = x.match(match, 2);
                long pair = 1L << (Math.min(first, second) * 8 + Math.max(first, second));
                check.dueTrue(first + " - " + second + " for the first time", (met & pair) == 0 && first != second);
                met |= pair;
            }
            check.due("pairs of " + teams, Long.bitCount(met), Edges.MATCHES[teams]);
        }
    }

    @Says("Begins a league anew: no results, nothing staged, no venue closed, no setter away; settings stay. Undoable.")
    static void promise02_takesResultsAndStagingAway() {
        QuizFixtures x = Edges.inTheMidst();
        check.due("begin(4)", x.begin(4), 6);
        check.due("count(3)", x.count(3), 0);
        check.due("count(4)", x.count(4), 0);
        edges.properties(x, 3, -1, -1, -1, -1, -1, -1);
        edges.properties(x, 4, -1, -1, -1, -1, -1, -1);
        edges.properties(x, 5, 0, 0, 0, 0, 0, 0);
        edges.properties(x, 6, -1, -1, -1, -1, -1, -1);
        edges.properties(x, 8, 0, 0, 0, 0, 0, 0);
        edges.teams(x, 0, 0, 0, 0, 0);
    }

    @Says("Begins a league anew: no results, nothing staged, no venue closed, no setter away; settings stay. Undoable.")
    static void promise02_opensAllVenuesAndLetsAllSettersBeThere() {
        for (int number = 0; number < 6; number++) {
            QuizFixtures x = new QuizFixtures();
            x.close(number, Edges.ALL_ROUNDS);
            x.away(number, Edges.ALL_ROUNDS);
            x.begin(4);
            check.due("close(" + number + ")", x.close(number, 0), 0);
            check.due("away(" + number + ")", x.away(number, 0), 0);
        }
    }

    @Says("Begins a league anew: no results, nothing staged, no venue closed, no setter away; settings stay. Undoable.")
    static void promise02_settingsStay() {
        int[] values = {5, 3, 50, 28};
        QuizFixtures x = new QuizFixtures();
        for (int setting = 0; setting < 4; setting++) {
            x.set(setting, values[setting]);
        }
        x.begin(8);
        for (int setting = 0; setting < 4; setting++) {
            check.due("setting(" + setting + ")", x.setting(setting), values[setting]);
        }
    }

    @Says("Begins a league anew: no results, nothing staged, no venue closed, no setter away; settings stay. Undoable.")
    static void promise02_theBufferStays() {
        QuizFixtures x = Edges.withText("0=w3");
        x.begin(3);
        check.due("firstError()", x.firstError(), 3);
        check.due("clearBuffer()", x.clearBuffer(), 4);
    }

    @Says("Begins a league anew: no results, nothing staged, no venue closed, no setter away; settings stay. Undoable.")
    static void promise02_from8TeamsTo3AndBack() {
        QuizFixtures x = Edges.staged(8);
        Edges.playAll(x, 28, false);
        x.begin(3);
        check.refuses("match(3, 0)", x, Edges.NO_SUCH, () -> x.match(3, 0));
        check.refuses("team(3, 0)", x, Edges.NO_SUCH, () -> x.team(3, 0));
        check.refuses("busy(3, 0)", x, Edges.NO_SUCH, () -> x.busy(3, 0));
        check.due("table(3)", x.table(3), Edges.NONE);
        check.due("stage() of 3 teams", x.stage(), 3);
        x.begin(8);
        check.due("the last match has no result", x.match(27, 8), 0);
        check.due("the last match has no venue", x.match(27, 3), Edges.NONE);
        check.due("stage() of 8 teams", x.stage(), 28);
    }

    @Says("Begins a league anew: no results, nothing staged, no venue closed, no setter away; settings stay. Undoable.")
    static void promise02_nothingOfAGreaterLeagueIsLeft() {
        QuizFixtures x = Edges.staged(8);
        Edges.playAll(x, 28, true);
        x.begin(3);
        for (int round = 0; round < 3; round++) {
            for (int number = 0; number < 12; number++) {
                check.due("busy(" + round + ", " + number + ")", x.busy(round, number), Edges.NONE);
            }
        }
        int[] counts = {3, 3, 3, 0, 0, 0, 0, 0, 0};
        for (int what = 0; what < counts.length; what++) {
            check.due("count(" + what + ")", x.count(what), counts[what]);
        }
        edges.teams(x, 8, 2, 2, 2);
        edges.table(x, 0, 1, 2);
    }

    @Says("Begins a league anew: no results, nothing staged, no venue closed, no setter away; settings stay. Undoable.")
    static void promise02_isUndoable() {
        for (int teams = 3; teams <= 8; teams++) {
            int number = teams;
            edges.undoable("begin(" + teams + ")", () -> Edges.staged(5), x -> x.begin(number));
        }
        edges.undoable("begin(4) on a new object", QuizFixtures::new, x -> x.begin(4));
    }

    // ---- close and away, whose edges are the same

    private interface MaskCall {
        int on(QuizFixtures x, int number, int rounds);
    }

    private static void takesTheFirstAndTheLast(MaskCall call) {
        for (int number : new int[] {0, 5}) {
            QuizFixtures x = new QuizFixtures();
            check.due("number " + number, call.on(x, number, 1), 0);
            check.due("number " + number + " again", call.on(x, number, 2), 1);
            check.due("not another one", call.on(x, 5 - number, 4), 0);
        }
    }

    private static void refusesNumbersOutside(MaskCall call) {
        for (int number : new int[] {-1, 6, Integer.MIN_VALUE, Integer.MAX_VALUE}) {
            edges.refused("number " + number, Edges.NO_SUCH, x -> call.on(x, number, 1));
        }
    }

    private static void takesTheLeastAndTheGreatestMask(MaskCall call) {
        QuizFixtures x = new QuizFixtures();
        check.due("all rounds", call.on(x, 3, 127), 0);
        check.due("no round", call.on(x, 3, 0), 127);
        check.due("no round again", call.on(x, 3, 0), 0);
    }

    private static void refusesMasksOutside(MaskCall call) {
        for (int rounds : new int[] {-1, 128, 255, Integer.MIN_VALUE, Integer.MAX_VALUE}) {
            edges.refused("mask " + rounds, Edges.BAD, x -> call.on(x, 0, rounds));
        }
    }

    private static void tellsANumberOutsideAheadOfAMaskOutside(MaskCall call) {
        for (int number : new int[] {-1, 6}) {
            for (int rounds : new int[] {-1, 128}) {
                edges.refused(number + " with mask " + rounds, Edges.NO_SUCH, x -> call.on(x, number, rounds));
            }
        }
    }

    private static void eachBitIsForItsRound(MaskCall call, int first, int number) {
        for (int round = 0; round < 7; round++) {
            QuizFixtures x = Edges.league(8);
            if (first == 0) {
                Edges.closeAllBut(x, number);
            } else {
                Edges.sendAwayAllBut(x, number);
            }
            call.on(x, number, 127);
            call.on(x, number, 1 << round);
            x.stage();
            for (int other = 0; other < 7; other++) {
                boolean isFree = x.busy(other, first + number) == Edges.NONE;
                check.dueTrue("with the bit " + round + ", in round " + other, isFree == (other == round));
            }
        }
    }

    private static void keepsBitsThatHaveNoRound(MaskCall call) {
        QuizFixtures x = Edges.league(3);
        for (int number = 0; number < 6; number++) {
            call.on(x, number, 8 + 16 + 32 + 64);
        }
        check.due("stage() of 3 rounds", x.stage(), 3);
        check.due("the mask", call.on(x, 5, 127), 120);
    }

    private static void leavesWhatIsStaged(MaskCall call) {
        QuizFixtures x = Edges.staged(4);
        x.score(0, 5, 5);
        call.on(x, 0, 127);
        call.on(x, 1, 127);
        edges.properties(x, 3, 1, 0, 2, 3, 4, 5);
        edges.properties(x, 4, 1, 0, 2, 3, 4, 2);
        edges.properties(x, 5, 0, 0, 0, 0, 0, 0);
        check.due("a result for a match that is there", x.walkover(1, false), -1);
    }

    private static void isUndoable(MaskCall call) {
        QuizFixtures x = new QuizFixtures();
        call.on(x, 2, 5);
        call.on(x, 2, 127);
        x.undo();
        check.due("the mask from before", call.on(x, 2, 5), 5);
        check.due("saved, though nothing has changed", x.count(9), 2);
        edges.undoable("a mask", () -> Edges.staged(5), y -> call.on(y, 1, 64));
        edges.undoable("the same mask", () -> Edges.staged(5), y -> call.on(y, 1, 0));
    }

    @Says("`venue`: 0 to 5")
    static void promise03_takesVenues0And5() {
        takesTheFirstAndTheLast(QuizFixtures::close);
    }

    @Says("Throws `IndexOutOfBoundsException` if there is no such venue")
    static void promise03_refusesVenuesOutside() {
        refusesNumbersOutside(QuizFixtures::close);
    }

    @Says({"`rounds`: a mask, 0 to 127, with the bit r for the round r", "Returns the previous mask."})
    static void promise03_takesMasks0And127() {
        takesTheLeastAndTheGreatestMask(QuizFixtures::close);
    }

    @Says("Throws `IllegalArgumentException` if rounds is out of range")
    static void promise03_refusesMasksOutside() {
        refusesMasksOutside(QuizFixtures::close);
    }

    @Says("If several exceptions apply, the one that is named first in the throws clause is thrown.")
    static void promise03_noSuchVenueIsToldFirst() {
        tellsANumberOutsideAheadOfAMaskOutside(QuizFixtures::close);
    }

    @Says({"`rounds`: a mask, 0 to 127, with the bit r for the round r",
        "Closes a venue in some rounds, and opens it in the others; what is staged stays. Undoable."})
    static void promise03_eachBitClosesItsRoundAlone() {
        eachBitIsForItsRound(QuizFixtures::close, 0, 0);
        eachBitIsForItsRound(QuizFixtures::close, 0, 5);
    }

    @Says("`rounds`: a mask, 0 to 127, with the bit r for the round r")
    static void promise03_keepsBitsThatHaveNoRound() {
        keepsBitsThatHaveNoRound(QuizFixtures::close);
    }

    @Says("Closes a venue in some rounds, and opens it in the others; what is staged stays. Undoable.")
    static void promise03_leavesWhatIsStaged() {
        leavesWhatIsStaged(QuizFixtures::close);
    }

    @Says("Closes a venue in some rounds, and opens it in the others; what is staged stays. Undoable.")
    static void promise03_isUndoable() {
        isUndoable(QuizFixtures::close);
    }

    @Says("`setter`: 0 to 5")
    static void promise04_takesSetters0And5() {
        takesTheFirstAndTheLast(QuizFixtures::away);
    }

    @Says("Throws `IndexOutOfBoundsException` if there is no such setter")
    static void promise04_refusesSettersOutside() {
        refusesNumbersOutside(QuizFixtures::away);
    }

    @Says({"`rounds`: a mask, 0 to 127, with the bit r for the round r", "Returns the previous mask."})
    static void promise04_takesMasks0And127() {
        takesTheLeastAndTheGreatestMask(QuizFixtures::away);
    }

    @Says("Throws `IllegalArgumentException` if rounds is out of range")
    static void promise04_refusesMasksOutside() {
        refusesMasksOutside(QuizFixtures::away);
    }

    @Says("If several exceptions apply, the one that is named first in the throws clause is thrown.")
    static void promise04_noSuchSetterIsToldFirst() {
        tellsANumberOutsideAheadOfAMaskOutside(QuizFixtures::away);
    }

    @Says({"`rounds`: a mask, 0 to 127, with the bit r for the round r",
        "Lets a setter be away in some rounds, and not in the others; what is staged stays. Undoable."})
    static void promise04_eachBitIsForItsRoundAlone() {
        eachBitIsForItsRound(QuizFixtures::away, 6, 0);
        eachBitIsForItsRound(QuizFixtures::away, 6, 5);
    }

    @Says("`rounds`: a mask, 0 to 127, with the bit r for the round r")
    static void promise04_keepsBitsThatHaveNoRound() {
        keepsBitsThatHaveNoRound(QuizFixtures::away);
    }

    @Says("Lets a setter be away in some rounds, and not in the others; what is staged stays. Undoable.")
    static void promise04_leavesWhatIsStaged() {
        leavesWhatIsStaged(QuizFixtures::away);
    }

    @Says("Lets a setter be away in some rounds, and not in the others; what is staged stays. Undoable.")
    static void promise04_isUndoable() {
        isUndoable(QuizFixtures::away);
    }
}
