/** Counts answers that are not as due, and ends a test with exit code 1 if there was one. */
final class Check {
    private static final long NOTHING_THROWN = Long.MIN_VALUE;

    private final String name;
    private int looked = 0;
    private int wrong = 0;

    Check(String name) {
        this.name = name;
    }

    interface Call {
        long answer();
    }

    void due(String what, long got, long want) {
        looked++;
        if (got != want) {
            fault(what + " answered " + got + ", due is " + want);
        }
    }

    void dueDouble(String what, double got, double want) {
        looked++;
        if (Double.doubleToLongBits(got) != Double.doubleToLongBits(want)) {
            fault(what + " answered " + got + ", due is " + want);
        }
    }

    void dueTrue(String what, boolean got) {
        due(what, got ? 1 : 0, 1);
    }

    /** The call throws exactly this class (no subclass, as the machine would throw), and changes nothing. */
    void refuses(String what, QuizFixtures x, Class<? extends RuntimeException> kind, Call call) {
        looked++;
        long before = x.digest();
        long answer = NOTHING_THROWN;
        try {
            answer = call.answer();
            fault(what + " answered " + answer + ", due is " + kind.getSimpleName());
        } catch (RuntimeException e) {
            if (e.getClass() != kind) {
                fault(what + " threw " + e.getClass().getSimpleName() + ", due is " + kind.getSimpleName());
            }
        }
        if (x.digest() != before) {
            fault(what + " threw, but changed the state");
        }
    }

    /** The call answers this and changes nothing. */
    void looks(String what, QuizFixtures x, long want, Call call) {
        long before = x.digest();
        due(what, call.answer(), want);
        if (x.digest() != before) {
            fault(what + " changed the state");
        }
    }

    void fault(String what) {
        wrong++;
        System.out.println(name + ": " + what);
    }

    void end() {
        System.out.println(name + ": " + looked + " answers looked at, " + wrong + " not as due");
        if (wrong != 0) {
            System.exit(1);
        }
    }

    /** Appends each character of a text to the buffer. */
    static void write(QuizFixtures x, String text) {
        for (int at = 0; at < text.length(); at++) {
            x.append(text.charAt(at));
        }
    }
}
