import java.util.ArrayDeque;
import java.util.ArrayList;
import java.util.Comparator;
import java.util.Deque;
import java.util.List;
import java.util.regex.Matcher;
import java.util.regex.Pattern;

/** The document once more, written another way and with the Java library, to compare answers with. */
final class Model {
    private static final String SCORE = "(?:0|[1-9][0-9]?)";
    private static final String PART = "(?:0|[1-9]|1[0-9]|2[0-7])=(?:" + SCORE + ":" + SCORE + "|w[12])";
    private static final Pattern RESULTS = Pattern.compile(PART + "(?:;" + PART + ")*");

    private static final class Match {
        int round;
        int first;
        int second;
        Integer venue;
        Integer setter;
        int reason;
        String result = "";

        Match copy() {
            Match c = new Match();
            c.round = round;
            c.first = first;
            c.second = second;
            c.venue = venue;
            c.setter = setter;
            c.reason = reason;
            c.result = result;
            return c;
        }

        boolean isOpen() {
            return result.isEmpty();
        }

        boolean has(int team) {
            return first == team || second == team;
        }
    }

    private static final class State {
        int teams;
        int[] settings = {2, 1, 20, 9};
        int[] closed = new int[6];
        int[] away = new int[6];
        List<Match> matches = new ArrayList<>();

        State copy() {
            State c = new State();
            c.teams = teams;
            c.settings = settings.clone();
            c.closed = closed.clone();
            c.away = away.clone();
            for (Match m : matches) {
                c.matches.add(m.copy());
            }
            return c;
        }
    }

    private State now = new State();
    private final Deque<State> saved = new ArrayDeque<>();
    private String buffer = "";

    Model() {
        fill(4);
    }

    private void fill(int teams) {
        now.teams = teams;
        now.closed = new int[6];
        now.away = new int[6];
        now.matches = new ArrayList<>();
        int m = teams + teams % 2;
        for (int r = 0; r < m - 1; r++) {
            for (int i = 0; i < m / 2; i++) {
                Match match = new Match();
                match.round = r;
                match.first = i == 0 ? m - 1 : (r + i) % (m - 1);
                match.second = i == 0 ? r : (r - i + m - 1) % (m - 1);
                if (match.first < teams && match.second < teams) {
                    now.matches.add(match);
                }
            }
        }
    }

    private void save() {
        saved.addLast(now.copy());
        if (saved.size() > 6) {
            saved.removeFirst();
        }
    }

    private static void known(boolean ok) {
        if (!ok) {
            throw new IndexOutOfBoundsException();
        }
    }

    private static void allowed(boolean ok) {
        if (!ok) {
            throw new IllegalArgumentException();
        }
    }

    private static void possible(boolean ok) {
        if (!ok) {
            throw new IllegalStateException();
        }
    }

    private static boolean in(int value, int low, int high) {
        return value >= low && value <= high;
    }

    private boolean isMatch(int match) {
        return in(match, 0, now.matches.size() - 1);
    }

    private boolean isTeam(int team) {
        return in(team, 0, now.teams - 1);
    }

    int begin(int teams) {
        allowed(in(teams, 3, 8));
        save();
        fill(teams);
        return teams * (teams - 1) / 2;
    }

    int close(int venue, int rounds) {
        known(in(venue, 0, 5));
        allowed(in(rounds, 0, 127));
        save();
        int previous = now.closed[venue];
        now.closed[venue] = rounds;
        return previous;
    }

    int away(int setter, int rounds) {
        known(in(setter, 0, 5));
        allowed(in(rounds, 0, 127));
        save();
        int previous = now.away[setter];
        now.away[setter] = rounds;
        return previous;
    }

    int stage() {
        save();
        return stage(now);
    }

    private static int stage(State s) {
        for (Match m : s.matches) {
            if (m.isOpen()) {
                m.venue = null;
                m.setter = null;
            }
        }
        int done = 0;
        for (Match m : s.matches) {
            if (m.isOpen()) {
                Integer venue = venueFor(s, m);
                Integer setter = venue == null ? null : setterFor(s, m);
                m.reason = venue == null ? 1 : setter == null ? 2 : 0;
                m.venue = setter == null ? null : venue;
                m.setter = setter;
                done += setter == null ? 0 : 1;
            }
        }
        return done;
    }

    private static Integer venueFor(State s, Match m) {
        List<Integer> free = new ArrayList<>();
        for (int v = 0; v < 6; v++) {
            int venue = v;
            boolean isHome = m.first % 6 == v || m.second % 6 == v;
            boolean isTaken = s.matches.stream().anyMatch(o -> o.round == m.round && is(o.venue, venue));
            if (!isHome && !isTaken && (s.closed[v] >> m.round & 1) == 0) {
                free.add(v);
            }
        }
        Comparator<Integer> fewest = Comparator.comparing(v -> atVenue(s, v));
        return free.stream().min(fewest.thenComparing(v -> v)).orElse(null);
    }

    private static Integer setterFor(State s, Match m) {
        List<Integer> free = new ArrayList<>();
        for (int t = 0; t < 6; t++) {
            int setter = t;
            boolean isTaken = s.matches.stream().anyMatch(o -> o.round == m.round && is(o.setter, setter));
            if (!m.has(t % s.teams) && !isTaken && (s.away[t] >> m.round & 1) == 0 && bySetter(s, t) < s.settings[3]) {
                free.add(t);
            }
        }
        Comparator<Integer> fewest = Comparator.comparing(t -> bySetter(s, t));
        return free.stream().min(fewest.thenComparing(t -> t)).orElse(null);
    }

    private static boolean is(Integer held, int number) {
        return held != null && held == number;
    }

    private static long atVenue(State s, int venue) {
        return s.matches.stream().filter(m -> is(m.venue, venue)).count();
    }

    private static long bySetter(State s, int setter) {
        return s.matches.stream().filter(m -> is(m.setter, setter)).count();
    }

    int score(int match, int first, int second) {
        known(isMatch(match));
        allowed(in(first, 0, 99) && in(second, 0, 99));
        possible(now.matches.get(match).venue != null);
        save();
        now.matches.get(match).result = first + ":" + second;
        return points(now, now.matches.get(match).first);
    }

    int walkover(int match, boolean isSecond) {
        known(isMatch(match));
        possible(now.matches.get(match).venue != null);
        save();
        Match m = now.matches.get(match);
        m.result = isSecond ? "w2" : "w1";
        return points(now, isSecond ? m.second : m.first);
    }

    int annul(int match) {
        known(isMatch(match));
        save();
        boolean had = !now.matches.get(match).isOpen();
        now.matches.get(match).result = "";
        return had ? 1 : 0;
    }

    int set(int setting, int value) {
        known(in(setting, 0, 3));
        int[][] ranges = {{1, 5}, {0, 3}, {1, 50}, {1, 28}};
        allowed(in(value, ranges[setting][0], ranges[setting][1]));
        save();
        int previous = now.settings[setting];
        now.settings[setting] = value;
        return previous;
    }

    int append(int code) {
        allowed(in(code, 33, 126));
        possible(buffer.length() < 60);
        buffer += (char) code;
        return buffer.length();
    }

    int clearBuffer() {
        int length = buffer.length();
        buffer = "";
        return length;
    }

    int firstError() {
        for (int at = 0; at < buffer.length(); at++) {
            Matcher matcher = RESULTS.matcher(buffer.substring(0, at + 1));
            if (!matcher.matches() && !matcher.hitEnd()) {
                return at;
            }
        }
        return buffer.length();
    }

    int report() {
        allowed(RESULTS.matcher(buffer).matches());
        String[] parts = buffer.split(";");
        for (String part : parts) {
            int match = Integer.parseInt(part.substring(0, part.indexOf('=')));
            possible(isMatch(match) && now.matches.get(match).venue != null);
        }
        save();
        for (String part : parts) {
            int equals = part.indexOf('=');
            now.matches.get(Integer.parseInt(part.substring(0, equals))).result = part.substring(equals + 1);
        }
        buffer = "";
        return count(4);
    }

    int undo() {
        possible(!saved.isEmpty());
        now = saved.removeLast();
        return saved.size();
    }

    /** The score of the first or of the second team. */
    private static int scoreOf(State s, Match m, boolean ofSecond) {
        if (m.isOpen()) {
            return -1;
        }
        if (m.result.startsWith("w")) {
            return m.result.equals(ofSecond ? "w2" : "w1") ? 0 : s.settings[2];
        }
        return Integer.parseInt(m.result.split(":")[ofSecond ? 1 : 0]);
    }

    int match(int match, int what) {
        known(isMatch(match));
        allowed(in(what, 0, 8));
        Match m = now.matches.get(match);
        int result = m.isOpen() ? 0 : m.result.equals("w1") ? 2 : m.result.equals("w2") ? 3 : 1;
        int[] all = {m.round, m.first, m.second, m.venue == null ? -1 : m.venue, m.setter == null ? -1 : m.setter,
            m.reason, scoreOf(now, m, false), scoreOf(now, m, true), result};
        return all[what];
    }

    /** Points, matches with a result, won, equal, scores, against, walkovers, place (0 here), open ones. */
    private static int[] tally(State s, int team) {
        int[] t = new int[9];
        for (Match m : s.matches) {
            if (!m.has(team)) {
                continue;
            }
            if (m.isOpen()) {
                t[8]++;
                continue;
            }
            boolean isSecond = m.second == team;
            int own = scoreOf(s, m, isSecond);
            int other = scoreOf(s, m, !isSecond);
            boolean gave = m.result.equals(isSecond ? "w2" : "w1");
            t[0] += (own > other ? s.settings[0] : own == other ? s.settings[1] : 0) - (gave ? 1 : 0);
            t[1]++;
            t[2] += own > other ? 1 : 0;
            t[3] += own == other ? 1 : 0;
            t[4] += own;
            t[5] += other;
            t[6] += gave ? 1 : 0;
        }
        return t;
    }

    private static int points(State s, int team) {
        return tally(s, team)[0];
    }

    private static List<Integer> table(State s) {
        List<Integer> teams = new ArrayList<>();
        for (int team = 0; team < s.teams; team++) {
            teams.add(team);
        }
        teams.sort(Comparator.comparing((Integer t) -> -tally(s, t)[0])
            .thenComparing(t -> tally(s, t)[5] - tally(s, t)[4])
            .thenComparing(t -> -tally(s, t)[4])
            .thenComparing(t -> t));
        return teams;
    }

    int team(int team, int what) {
        known(isTeam(team));
        allowed(in(what, 0, 8));
        return what == 7 ? table(now).indexOf(team) : tally(now, team)[what];
    }

    int table(int place) {
        allowed(place >= 0);
        return place < now.teams ? table(now).get(place) : -1;
    }

    int busy(int round, int number) {
        known(in(round, 0, now.teams - 2 + now.teams % 2));
        allowed(in(number, 0, 11));
        for (int match = 0; match < now.matches.size(); match++) {
            Match m = now.matches.get(match);
            if (m.round == round && (number < 6 ? is(m.venue, number) : is(m.setter, number - 6))) {
                return match;
            }
        }
        return -1;
    }

    int count(int what) {
        allowed(in(what, 0, 9));
        long most = 0;
        int points = 0;
        for (int number = 0; number < 6; number++) {
            most = Math.max(most, what == 7 ? bySetter(now, number) : atVenue(now, number));
        }
        for (int team = 0; team < now.teams; team++) {
            points += points(now, team);
        }
        switch (what) {
            case 0: return now.teams;
            case 1: return now.teams - 1 + now.teams % 2;
            case 2: return now.teams * (now.teams - 1) / 2;
            case 3: return (int) now.matches.stream().filter(m -> m.venue != null).count();
            case 4: return (int) now.matches.stream().filter(m -> !m.isOpen()).count();
            case 5: return (int) now.matches.stream().filter(m -> m.result.startsWith("w")).count();
            case 6: return points;
            case 9: return saved.size();
            default: return (int) most;
        }
    }

    int setting(int setting) {
        known(in(setting, 0, 3));
        return now.settings[setting];
    }

    int meeting(int team, int other) {
        known(isTeam(team) && isTeam(other));
        allowed(team != other);
        for (int match = 0; match < now.matches.size(); match++) {
            if (now.matches.get(match).has(team) && now.matches.get(match).has(other)) {
                return match;
            }
        }
        throw new AssertionError("two teams that do not meet");
    }

    int bestPlace(int team) {
        known(isTeam(team));
        State would = now.copy();
        for (Match m : would.matches) {
            if (m.has(team) && m.isOpen()) {
                m.result = m.first == team ? "99:0" : "0:99";
            }
        }
        return table(would).indexOf(team);
    }

    int isSure(int team) {
        known(isTeam(team));
        for (int other = 0; other < now.teams; other++) {
            int[] t = tally(now, other);
            if (other != team && t[0] + t[8] * now.settings[0] >= points(now, team)) {
                return 0;
            }
        }
        return 1;
    }

    int ifMissing(int number) {
        allowed(in(number, 0, 11));
        State would = now.copy();
        (number < 6 ? would.closed : would.away)[number % 6] = 127;
        return stage(would);
    }

    double closeness() {
        List<Integer> places = table(now);
        int first = points(now, places.get(0));
        int last = points(now, places.get(places.size() - 1));
        return first <= 0 ? 1.0 : (double) last / first;
    }

    long digest() {
        List<Long> values = new ArrayList<>();
        for (int what = 0; what < 10; what++) {
            values.add((long) count(what));
        }
        for (int[] row : new int[][] {now.settings, now.closed, now.away}) {
            for (int value : row) {
                values.add((long) value);
            }
        }
        for (int match = 0; match < now.matches.size(); match++) {
            for (int what = 0; what < 9; what++) {
                values.add((long) match(match, what));
            }
        }
        for (int team = 0; team < now.teams; team++) {
            for (int what = 0; what < 9; what++) {
                values.add((long) team(team, what));
            }
            values.add((long) bestPlace(team));
            values.add((long) isSure(team));
        }
        for (int team : table(now)) {
            values.add((long) team);
        }
        for (int number = 0; number < 12; number++) {
            values.add((long) ifMissing(number));
        }
        values.add(Double.doubleToLongBits(closeness()));
        values.add((long) buffer.length());
        for (char c : buffer.toCharArray()) {
            values.add((long) c);
        }
        long hash = 3011;
        for (long value : values) {
            hash = 31 * hash + value;
        }
        return hash;
    }
}
