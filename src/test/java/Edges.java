import java.util.function.Consumer;
import java.util.function.Supplier;
import java.util.function.ToLongFunction;

/** States to test the edges from, and twins of them, by which a refused call is shown to have changed nothing. */
final class Edges {
    static final Class<IndexOutOfBoundsException> NO_SUCH = IndexOutOfBoundsException.class;
    static final Class<IllegalArgumentException> BAD = IllegalArgumentException.class;
    static final Class<IllegalStateException> NOT_NOW = IllegalStateException.class;
    static final int NONE = QuizFixtures.NONE;
    static final int ALL_ROUNDS = 127;
    static final int[] FAR_OUTSIDE = {Integer.MIN_VALUE, -1000, 1000, Integer.MAX_VALUE};
    /** How many matches a league of as many teams has. */
    static final int[] MATCHES = {0, 0, 0, 3, 6, 10, 15, 21, 28};
    /** How many rounds it has. */
    static final int[] ROUNDS = {0, 0, 0, 3, 3, 5, 5, 7, 7};
    /** Twelve parts with 59 characters. */
    static final String TWELVE_PARTS = "0=w1;1=w1;2=w1;3=w1;4=w1;5=w1;0=w2;1=w2;2=w2;3=w2;4=w2;5=w2";
    /** Twelve parts with 60 characters: the longest complete text that the buffer can hold. */
    static final String FULL_AND_COMPLETE = "0=1:1;1=w1;2=w1;3=w1;4=w1;5=w1;0=w2;1=w2;2=w2;3=w2;4=w2;5=w2";
    /** As long, with a score as the twelfth part. */
    static final String FULL_WITH_A_SCORE_AT_ITS_END = "0=w1;1=w1;2=w1;3=w1;4=w1;5=w1;0=w2;1=w2;2=w2;3=w2;4=w2;5=7:6";

    private final Check check;

    Edges(Check check) {
        this.check = check;
    }

    static QuizFixtures league(int teams) {
        QuizFixtures x = new QuizFixtures();
        x.begin(teams);
        return x;
    }

    /** All matches have a venue. */
    static QuizFixtures staged(int teams) {
        QuizFixtures x = league(teams);
        x.stage();
        return x;
    }

    /** 4 teams; match 5 has no setter; six states are saved, one was dropped; the buffer holds an incomplete text. */
    static QuizFixtures inTheMidst() {
        QuizFixtures x = new QuizFixtures();
        x.set(3, 1);
        x.stage();
        x.score(0, 20, 10);
        x.walkover(1, true);
        x.close(4, 9);
        x.away(2, 65);
        x.annul(2);
        Check.write(x, "0=w1;5");
        return x;
    }

    /** As inTheMidst, with another text in the buffer. */
    static QuizFixtures withText(String text) {
        QuizFixtures x = inTheMidst();
        x.clearBuffer();
        Check.write(x, text);
        return x;
    }

    /** No venue is open but this one, in any round; NONE for no venue at all. */
    static void closeAllBut(QuizFixtures x, int open) {
        for (int venue = 0; venue < 6; venue++) {
            x.close(venue, venue == open ? 0 : ALL_ROUNDS);
        }
    }

    /** No setter is there but this one, in any round; NONE for no setter at all. */
    static void sendAwayAllBut(QuizFixtures x, int there) {
        for (int setter = 0; setter < 6; setter++) {
            x.away(setter, setter == there ? 0 : ALL_ROUNDS);
        }
    }

    /** Each match that has a venue is given the score 1 to 0, or a walkover of its second team. */
    static void playAll(QuizFixtures x, int matches, boolean byWalkovers) {
        for (int match = 0; match < matches; match++) {
            if (byWalkovers) {
                x.walkover(match, true);
            } else {
                x.score(match, 1, 0);
            }
        }
    }

    void properties(QuizFixtures x, int what, int... due) {
        for (int match = 0; match < due.length; match++) {
            check.due("match(" + match + ", " + what + ")", x.match(match, what), due[match]);
        }
    }

    void teams(QuizFixtures x, int what, int... due) {
        for (int team = 0; team < due.length; team++) {
            check.due("team(" + team + ", " + what + ")", x.team(team, what), due[team]);
        }
    }

    void table(QuizFixtures x, int... due) {
        for (int place = 0; place < due.length; place++) {
            check.due("table(" + place + ")", x.table(place), due[place]);
            check.due("team(" + due[place] + ", 7)", x.team(due[place], 7), place);
        }
    }

    /** Both have the same state, and the same saved states, the latest first. */
    void alike(String what, QuizFixtures one, QuizFixtures other) {
        check.due(what + ": the digest", one.digest(), other.digest());
        int saved = other.count(9);
        check.due(what + ": saved states", one.count(9), saved);
        for (int left = saved - 1; left >= 0; left--) {
            check.due(what + ": undo()", one.undo(), other.undo());
            check.due(what + ": the digest with " + left + " states left", one.digest(), other.digest());
        }
    }

    /** The call throws exactly this class; its object is then as its twin is, which did not get the call. */
    void refused(String what, Supplier<QuizFixtures> made, Class<? extends RuntimeException> kind,
            ToLongFunction<QuizFixtures> call) {
        QuizFixtures x = made.get();
        check.dueThrown(what, kind, () -> call.applyAsLong(x));
        alike(what, x, made.get());
    }

    /** As refused, on a league that has all to lose. */
    void refused(String what, Class<? extends RuntimeException> kind, ToLongFunction<QuizFixtures> call) {
        refused(what, Edges::inTheMidst, kind, call);
    }

    /** The call saves one state, from before it, and no other call is needed to be back there. */
    void undoable(String what, Supplier<QuizFixtures> made, Consumer<QuizFixtures> call) {
        QuizFixtures x = made.get();
        int saved = x.count(9);
        long before = x.digest();
        call.accept(x);
        check.due(what + ": saved states", x.count(9), Math.min(saved + 1, 6));
        check.due(what + ": undo()", x.undo(), Math.min(saved, 5));
        if (saved < 6) {
            check.due(what + ": the state from before", x.digest(), before);
        }
    }
}
