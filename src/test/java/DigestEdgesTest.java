import java.math.BigInteger;
import java.util.ArrayList;
import java.util.List;
import java.util.function.Supplier;

/** The promise 26, digest, and its edges: the hash is made again from the answers of the other calls. */
public final class DigestEdgesTest {
    private static final BigInteger FACTOR = BigInteger.valueOf(31);
    private static final Check check = new Check("DigestEdgesTest");

    public static void main(String[] args) {
        check.runTestsOf(DigestEdgesTest.class);
        check.end();
    }

    private static void add(List<Long> values, long... more) {
        for (long value : more) {
            values.add(value);
        }
    }

    /** The values as the document lists them; a fresh object for the masks, which only close and away tell. */
    private static List<Long> valuesOf(Supplier<QuizFixtures> made, String buffer) {
        QuizFixtures x = made.get();
        List<Long> values = new ArrayList<>();
        for (int what = 0; what < 10; what++) {
            add(values, x.count(what));
        }
        for (int setting = 0; setting < 4; setting++) {
            add(values, x.setting(setting));
        }
        addMasks(values, made.get());
        int matches = x.count(2);
        for (int match = 0; match < matches; match++) {
            for (int what = 0; what < 9; what++) {
                add(values, x.match(match, what));
            }
        }
        int teams = x.count(0);
        for (int team = 0; team < teams; team++) {
            for (int what = 0; what < 9; what++) {
                add(values, x.team(team, what));
            }
            add(values, x.bestPlace(team), x.isSure(team));
        }
        for (int place = 0; place < teams; place++) {
            add(values, x.table(place));
        }
        for (int number = 0; number < 12; number++) {
            add(values, x.ifMissing(number));
        }
        add(values, Double.doubleToLongBits(x.closeness()), buffer.length());
        for (char code : buffer.toCharArray()) {
            add(values, code);
        }
        return values;
    }

    private static void addMasks(List<Long> values, QuizFixtures x) {
        for (int venue = 0; venue < 6; venue++) {
            add(values, x.close(venue, 0));
        }
        for (int setter = 0; setter < 6; setter++) {
            add(values, x.away(setter, 0));
        }
    }

    /** The hash without any overflow. */
    private static BigInteger exact(List<Long> values) {
        BigInteger hash = BigInteger.valueOf(3011);
        for (long value : values) {
            hash = hash.multiply(FACTOR).add(BigInteger.valueOf(value));
        }
        return hash;
    }

    private static void digest(String what, Supplier<QuizFixtures> made, String buffer) {
        QuizFixtures x = made.get();
        long due = exact(valuesOf(made, buffer)).longValue();
        check.due(what + ": digest()", x.digest(), due);
        check.due(what + ": digest() changes nothing", x.digest(), due);
    }

    private static void digest(String what, Supplier<QuizFixtures> made) {
        digest(what, made, "");
    }

    @Says({"The hash starts at 3011.",
        "For each value v of the following list, in order, the hash becomes 31 * hash + v"})
    static void promise26_theListOfANewObject() {
        List<Long> values = new ArrayList<>();
        add(values, 4, 3, 6, 0, 0, 0, 0, 0, 0, 0);
        add(values, 2, 1, 20, 9);
        add(values, 0, 0, 0, 0, 0, 0);
        add(values, 0, 0, 0, 0, 0, 0);
        add(values, 0, 3, 0, -1, -1, 0, -1, -1, 0);
        add(values, 0, 1, 2, -1, -1, 0, -1, -1, 0);
        add(values, 1, 3, 1, -1, -1, 0, -1, -1, 0);
        add(values, 1, 2, 0, -1, -1, 0, -1, -1, 0);
        add(values, 2, 3, 2, -1, -1, 0, -1, -1, 0);
        add(values, 2, 0, 1, -1, -1, 0, -1, -1, 0);
        for (int team = 0; team < 4; team++) {
            add(values, 0, 0, 0, 0, 0, 0, 0, team, 3, 0, 0);
        }
        add(values, 0, 1, 2, 3);
        add(values, 6, 6, 6, 6, 6, 6, 6, 6, 6, 6, 6, 6);
        add(values, 0x3FF0000000000000L);
        add(values, 0);
        check.due("digest()", new QuizFixtures().digest(), exact(values).longValue());
    }

    @Says({"in long arithmetic with overflow.", "Returns the hash."})
    static void promise26_longArithmeticOverflows() {
        BigInteger exact = exact(valuesOf(QuizFixtures::new, ""));
        check.dueTrue("the hash is too great for a long", exact.bitLength() > 63);
        BigInteger modulus = BigInteger.ONE.shiftLeft(64);
        BigInteger wrapped = exact.mod(modulus);
        BigInteger due = wrapped.testBit(63) ? wrapped.subtract(modulus) : wrapped;
        check.due("digest()", new QuizFixtures().digest(), due.longValueExact());
    }

    @Says("in long arithmetic with overflow.")
    static void promise26_hashesBelow0AndAbove() {
        int below = 0;
        int above = 0;
        for (int value = 1; value <= 50; value++) {
            int score = value;
            digest("setting 2 as " + value, () -> walkoverScore(score));
            long hash = walkoverScore(value).digest();
            below += hash < 0 ? 1 : 0;
            above += hash > 0 ? 1 : 0;
        }
        check.dueTrue("some hash is below 0", below > 0);
        check.dueTrue("some hash is above 0", above > 0);
    }

    private static QuizFixtures walkoverScore(int value) {
        QuizFixtures x = new QuizFixtures();
        x.set(2, value);
        return x;
    }

    @Says("count(0) to count(9); the settings 0 to 3;")
    static void promise26_leaguesOf3To8Teams() {
        for (int teams = 3; teams <= 8; teams++) {
            int count = teams;
            digest(teams + " teams", () -> Edges.league(count));
            digest(teams + " teams, staged", () -> Edges.staged(count));
            digest(teams + " teams, all played", () -> played(count, false));
            digest(teams + " teams, all walkovers", () -> played(count, true));
        }
    }

    private static QuizFixtures played(int teams, boolean byWalkovers) {
        QuizFixtures x = Edges.staged(teams);
        Edges.playAll(x, Edges.MATCHES[teams], byWalkovers);
        return x;
    }

    @Says("for each venue the mask by which it is closed, for each setter the mask by which that one is away;")
    static void promise26_eachMask() {
        for (int number = 0; number < 6; number++) {
            int at = number;
            for (int mask : new int[] {1, 64, 127}) {
                digest("venue " + at + " closed by " + mask, () -> masked(at, mask, 0));
                digest("setter " + at + " away by " + mask, () -> masked(at, 0, mask));
            }
        }
    }

    private static QuizFixtures masked(int number, int closed, int away) {
        QuizFixtures x = new QuizFixtures();
        x.close(number, closed);
        x.away(number, away);
        return x;
    }

    @Says({"for each match its properties 0 to 8; for each team its properties 0 to 8, bestPlace and isSure;",
        "table of all places; ifMissing of 0 to 11;"})
    static void promise26_mixedResults() {
        for (int teams = 3; teams <= 8; teams++) {
            int count = teams;
            digest(teams + " teams", () -> mixed(count), "0=99:1;~!");
        }
        digest("in the midst", Edges::inTheMidst, "0=w1;5");
    }

    private static QuizFixtures mixed(int teams) {
        QuizFixtures x = Edges.league(teams);
        x.set(1, teams % 4);
        x.set(3, teams - 1);
        x.close(2, 127);
        x.away(3, 21);
        x.stage();
        for (int match = 0; match < Edges.MATCHES[teams]; match++) {
            if (x.match(match, 3) != Edges.NONE && match % 3 != 0) {
                x.score(match, match * 7 % 30, match * 11 % 30);
            } else if (x.match(match, 3) != Edges.NONE && match % 6 == 0) {
                x.walkover(match, match % 4 == 0);
            }
        }
        Check.write(x, "0=99:1;~!");
        return x;
    }

    @Says("the bits of closeness (as Double.doubleToLongBits);")
    static void promise26_theBitsOfEachShare() {
        double[] shares = {0.0, 1.0, -2.0, -1.0, -2.0 / 3.0, -2.0 / 4.0, -2.0 / 5.0};
        for (int at = 0; at < shares.length; at++) {
            int kind = at;
            check.dueDouble("share " + kind, withShare(kind).closeness(), shares[kind]);
            digest("share " + kind, () -> withShare(kind));
        }
        for (int given = 1; given <= 7; given++) {
            int count = given;
            digest("walkovers of team 0: " + given, () -> walkoversOf0(count, 1));
            digest("walkovers of team 0, 5 for winning: " + given, () -> walkoversOf0(count, 5));
        }
        check.dueDouble("the least share", walkoversOf0(7, 1).closeness(), -7.0);
    }

    /** Of 3 teams: one has won; all have won one; then the team 1 has -2, and winning counts 1, 2, .. 5. */
    private static QuizFixtures withShare(int kind) {
        QuizFixtures x = Edges.staged(3);
        if (kind == 0) {
            x.score(0, 1, 0);
        } else if (kind == 1) {
            Edges.playAll(x, 3, false);
        } else {
            x.set(0, kind - 1);
            x.walkover(0, false);
            x.walkover(2, true);
        }
        return x;
    }

    private static QuizFixtures walkoversOf0(int given, int forWinning) {
        QuizFixtures x = Edges.staged(8);
        x.set(0, forWinning);
        for (int other = 1; other <= given; other++) {
            int match = x.meeting(0, other);
            x.walkover(match, x.match(match, 2) == 0);
        }
        return x;
    }

    @Says("the length of the buffer and each of its character codes.")
    static void promise26_anEmptyAndAFullBuffer() {
        digest("an empty buffer", () -> withText(""), "");
        digest("one character", () -> withText("!"), "!");
        digest("a full buffer", () -> withText(Edges.FULL_AND_COMPLETE), Edges.FULL_AND_COMPLETE);
        StringBuilder greatest = new StringBuilder();
        for (int length = 0; length < 60; length++) {
            greatest.append('~');
        }
        digest("a full buffer of the greatest code", () -> withText(greatest.toString()), greatest.toString());
        QuizFixtures cleared = withText(Edges.FULL_AND_COMPLETE);
        cleared.clearBuffer();
        check.due("a buffer that was cleared", cleared.digest(), withText("").digest());
    }

    private static QuizFixtures withText(String text) {
        QuizFixtures x = new QuizFixtures();
        Check.write(x, text);
        return x;
    }

    @Says("count(0) to count(9); the settings 0 to 3;")
    static void promise26_noSavedStateAndSix() {
        for (int saved = 0; saved <= 7; saved++) {
            int count = saved;
            digest("annulled " + saved + " times", () -> annulled(count));
        }
        check.due("the seventh is not told", annulled(7).digest(), annulled(6).digest());
    }

    private static QuizFixtures annulled(int times) {
        QuizFixtures x = new QuizFixtures();
        for (int time = 0; time < times; time++) {
            x.annul(0);
        }
        return x;
    }
}
