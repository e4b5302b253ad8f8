import java.lang.reflect.InvocationTargetException;
import java.lang.reflect.Method;
import java.util.ArrayList;
import java.util.Comparator;
import java.util.List;

/** Counts answers that are not as due, and ends a test with exit code 1 if there was one. */
final class Check {
    private static final long NOTHING_THROWN = Long.MIN_VALUE;

    private final String name;
    private String running = "";
    private int tests = 0;
    private int looked = 0;
    private int wrong = 0;

    Check(String name) {
        this.name = name;
    }

    interface Call {
        long answer();
    }

    /** The tests of a class, by their names: its methods that are named after a promise, as promise07_theirMatter. */
    static List<Method> testsOf(Class<?> holder) {
        List<Method> found = new ArrayList<>();
        for (Method method : holder.getDeclaredMethods()) {
            if (method.getName().matches("promise[0-9][0-9]_\\w+")) {
                found.add(method);
            }
        }
        found.sort(Comparator.comparing(Method::getName));
        return found;
    }

    /** Runs all tests of a class; one that breaks off is a fault, and the others go on. */
    void runTestsOf(Class<?> holder) {
        for (Method test : testsOf(holder)) {
            tests++;
            running = test.getName() + ": ";
            try {
                test.invoke(null);
            } catch (InvocationTargetException e) {
                fault("broke off with " + e.getCause());
            } catch (IllegalAccessException e) {
                fault("can't be run: " + e);
            }
        }
        running = "";
        dueTrue("has tests", tests > 0);
    }

    void due(String what, long got, long want) {
        looked++;
        if (got != want) {
            fault(what + " answered " + got + ", due is " + want);
        }
    }

    void dueDouble(String what, double got, double want) {
        looked++;
        if (Double.doubleToLongBits(got) != Double.doubleToLongBits(want)) {
            fault(what + " answered " + got + ", due is " + want);
        }
    }

    void dueTrue(String what, boolean got) {
        due(what, got ? 1 : 0, 1);
    }

    /** The call throws exactly this class (no subclass, as the machine would throw). */
    void dueThrown(String what, Class<? extends RuntimeException> kind, Call call) {
        looked++;
        long answer = NOTHING_THROWN;
        try {
            answer = call.answer();
            fault(what + " answered " + answer + ", due is " + kind.getSimpleName());
        } catch (RuntimeException e) {
            if (e.getClass() != kind) {
                fault(what + " threw " + e.getClass().getSimpleName() + ", due is " + kind.getSimpleName());
            }
        }
    }

    /** The call throws exactly this class, and changes nothing that the digest tells. */
    void refuses(String what, QuizFixtures x, Class<? extends RuntimeException> kind, Call call) {
        long before = x.digest();
        dueThrown(what, kind, call);
        if (x.digest() != before) {
            fault(what + " threw, but changed the state");
        }
    }

    /** The call answers this and changes nothing. */
    void looks(String what, QuizFixtures x, long want, Call call) {
        long before = x.digest();
        due(what, call.answer(), want);
        if (x.digest() != before) {
            fault(what + " changed the state");
        }
    }

    void fault(String what) {
        wrong++;
        System.out.println(name + ": " + running + what);
    }

    void end() {
        String ran = tests > 0 ? tests + " tests, " : "";
        System.out.println(name + ": " + ran + looked + " answers looked at, " + wrong + " not as due");
        if (wrong != 0) {
            System.exit(1);
        }
    }

    /** Appends each character of a text to the buffer. */
    static void write(QuizFixtures x, String text) {
        for (int at = 0; at < text.length(); at++) {
            x.append(text.charAt(at));
        }
    }
}
