import java.util.Random;

/** Long runs of calls by fixed seeds, each answer compared with the model's. */
public final class ModelTest {
    private static final int RUNS = 400;
    private static final int CALLS = 512;
    /** A written text takes fewer: clearing, 4 parts of 8 characters at most, firstError and report. */
    private static final int CALLS_OF_A_TEXT = 40;
    private static final String[] NAMES = {"begin", "close", "away", "stage", "score", "walkover", "annul", "set",
        "append", "clearBuffer", "firstError", "report", "undo", "match", "team", "table", "busy", "count", "setting",
        "meeting", "bestPlace", "isSure", "ifMissing", "closeness", "digest"};
    private static final int[] WEIGHTS = {1, 4, 4, 6, 24, 10, 5, 4, 0, 1, 3, 3, 4, 5, 6, 3, 4, 4, 1, 2, 4, 4, 4, 3, 4};
    private static final int[] ODD = {-1, -2, 9, 12, 28, 100, 127, 128, 1 << 20, Integer.MAX_VALUE, Integer.MIN_VALUE};
    private static final Check check = new Check("ModelTest");

    private final Random random;
    private final String run;
    private final QuizFixtures x = new QuizFixtures();
    private final Model model = new Model();
    private int calls = 0;

    private ModelTest(int seed) {
        random = new Random(seed);
        run = "run " + seed;
    }

    public static void main(String[] args) {
        for (int seed = 0; seed < RUNS; seed++) {
            new ModelTest(seed).play();
        }
        check.end();
    }

    private void play() {
        int sum = 0;
        for (int weight : WEIGHTS) {
            sum += weight;
        }
        if (random.nextInt(4) != 0) {
            both("begin", 3 + random.nextInt(6), 0, 0);
            both("set", 3, 1 + random.nextInt(12), 0);
            both("stage", 0, 0, 0);
        }
        while (calls < CALLS) {
            if (random.nextInt(25) == 0 && calls <= CALLS - CALLS_OF_A_TEXT) {
                write();
                continue;
            }
            int pick = random.nextInt(sum);
            int call = 0;
            while (pick >= WEIGHTS[call]) {
                pick -= WEIGHTS[call];
                call++;
            }
            both(NAMES[call]);
        }
    }

    private void write() {
        StringBuilder text = new StringBuilder();
        for (int parts = 1 + random.nextInt(4); parts > 0; parts--) {
            text.append(random.nextInt(random.nextInt(3) == 0 ? 28 : Math.max(1, model.count(2)))).append('=');
            if (random.nextInt(3) == 0) {
                text.append('w').append(1 + random.nextInt(2));
            } else {
                text.append(random.nextInt(100)).append(':').append(random.nextInt(random.nextBoolean() ? 10 : 100));
            }
            text.append(parts > 1 ? ";" : "");
        }
        if (random.nextInt(3) == 0) {
            String signs = "0123456789=:;w!~x";
            text.setCharAt(random.nextInt(text.length()), signs.charAt(random.nextInt(signs.length())));
        }
        if (random.nextInt(3) != 0) {
            both("clearBuffer", 0, 0, 0);
        }
        for (int at = 0; at < text.length(); at++) {
            both("append", text.charAt(at), 0, 0);
        }
        both("firstError", 0, 0, 0);
        if (random.nextInt(4) != 0) {
            both("report", 0, 0, 0);
        }
    }

    private int below(int bound) {
        return random.nextInt(40) == 0 ? ODD[random.nextInt(ODD.length)] : random.nextInt(bound);
    }

    private int mask() {
        return random.nextInt(3) == 0 ? below(2) * 127 : below(128) & below(128);
    }

    private void both(String name) {
        int teams = model.count(0);
        int matches = model.count(2);
        switch (name) {
            case "begin": both(name, 3 + below(6), 0, 0); break;
            case "close": case "away": both(name, below(6), mask(), 0); break;
            case "score": both(name, below(matches), below(random.nextBoolean() ? 4 : 100), below(4)); break;
            case "walkover": both(name, below(matches), random.nextInt(2), 0); break;
            case "annul": both(name, below(matches), 0, 0); break;
            case "set": both(name, below(4), below(random.nextBoolean() ? 6 : 52), 0); break;
            case "match": both(name, below(matches), below(9), 0); break;
            case "team": both(name, below(teams), below(9), 0); break;
            case "meeting": both(name, below(teams), below(teams), 0); break;
            case "busy": both(name, below(model.count(1)), below(12), 0); break;
            case "count": both(name, below(10), 0, 0); break;
            case "setting": both(name, below(4), 0, 0); break;
            case "ifMissing": both(name, below(12), 0, 0); break;
            default: both(name, below(teams), 0, 0); break;
        }
    }

    private void both(String name, int a, int b, int c) {
        calls++;
        String got = answer(() -> ofProgram(name, a, b, c));
        String want = answer(() -> ofModel(name, a, b, c));
        check.due(run + ", call " + calls + ", " + name + "(" + a + ", " + b + ", " + c + "): " + got + " for " + want,
            got.equals(want) ? 1 : 0, 1);
    }

    private static String answer(Check.Call call) {
        try {
            return Long.toString(call.answer());
        } catch (RuntimeException e) {
            return e.getClass().getSimpleName();
        }
    }

    private long ofProgram(String name, int a, int b, int c) {
        switch (name) {
            case "begin": return x.begin(a);
            case "close": return x.close(a, b);
            case "away": return x.away(a, b);
            case "stage": return x.stage();
            case "score": return x.score(a, b, c);
            case "walkover": return x.walkover(a, b == 1);
            case "annul": return x.annul(a);
            case "set": return x.set(a, b);
            case "append": return x.append(a);
            case "clearBuffer": return x.clearBuffer();
            case "firstError": return x.firstError();
            case "report": return x.report();
            case "undo": return x.undo();
            case "match": return x.match(a, b);
            case "team": return x.team(a, b);
            case "table": return x.table(a);
            case "busy": return x.busy(a, b);
            case "count": return x.count(a);
            case "setting": return x.setting(a);
            case "meeting": return x.meeting(a, b);
            case "bestPlace": return x.bestPlace(a);
            case "isSure": return x.isSure(a);
            case "ifMissing": return x.ifMissing(a);
            case "closeness": return Double.doubleToLongBits(x.closeness());
            default: return x.digest();
        }
    }

    private long ofModel(String name, int a, int b, int c) {
        switch (name) {
            case "begin": return model.begin(a);
            case "close": return model.close(a, b);
            case "away": return model.away(a, b);
            case "stage": return model.stage();
            case "score": return model.score(a, b, c);
            case "walkover": return model.walkover(a, b == 1);
            case "annul": return model.annul(a);
            case "set": return model.set(a, b);
            case "append": return model.append(a);
            case "clearBuffer": return model.clearBuffer();
            case "firstError": return model.firstError();
            case "report": return model.report();
            case "undo": return model.undo();
            case "match": return model.match(a, b);
            case "team": return model.team(a, b);
            case "table": return model.table(a);
            case "busy": return model.busy(a, b);
            case "count": return model.count(a);
            case "setting": return model.setting(a);
            case "meeting": return model.meeting(a, b);
            case "bestPlace": return model.bestPlace(a);
            case "isSure": return model.isSure(a);
            case "ifMissing": return model.ifMissing(a);
            case "closeness": return Double.doubleToLongBits(model.closeness());
            default: return model.digest();
        }
    }
}
