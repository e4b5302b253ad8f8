public final class QuizFixtures {
    public static final int NONE = -1;

    private static final int FEWEST_TEAMS = 3;
    private static final int MOST_TEAMS = 8;
    private static final int TEAMS_AT_FIRST = 4;
    private static final int MOST_MATCHES = 28;
    private static final int VENUES = 6;
    private static final int SETTERS = 6;
    private static final int ALL_ROUNDS = 127;
    private static final int MOST_SCORE = 99;

    private static final int SETTINGS = 4;
    private static final int POINTS_FOR_WINNING = 0;
    private static final int POINTS_FOR_EQUAL_SCORES = 1;
    private static final int SCORE_OF_A_WALKOVER = 2;
    private static final int MOST_OF_A_SETTER = 3;
    private static final int[] LEAST_VALUES = {1, 0, 1, 1};
    private static final int[] GREATEST_VALUES = {5, 3, 50, 28};
    private static final int[] VALUES_AT_FIRST = {2, 1, 20, 9};

    private static final int NO_RESULT = 0;
    private static final int SCORES = 1;
    private static final int WALKOVER_OF_FIRST = 2;
    private static final int WALKOVER_OF_SECOND = 3;

    private static final int NO_REASON = 0;
    private static final int NO_VENUE = 1;
    private static final int NO_SETTER = 2;

    private static final int MATCH_PROPERTIES = 9;
    private static final int TEAM_PROPERTIES = 9;
    private static final int NUMBERS = 10;

    private final League league;
    private final Standings standings;
    private final Staging staging;
    private final History history;
    private final ResultText text;
    // What would be is tried out on these, so that the looks make nothing new.
    private final League trial;
    private final Standings trialStandings;

    public QuizFixtures() {
        league = new League();
        standings = new Standings();
        staging = new Staging();
        history = new History();
        text = new ResultText();
        trial = new League();
        trialStandings = new Standings();
    }

    // ---- the league

    public int begin(int teams) throws IllegalArgumentException {
        if (teams < FEWEST_TEAMS || teams > MOST_TEAMS) {
            throw new IllegalArgumentException("a league has 3 to 8 teams");
        }
        history.keep(league);
        league.restart(teams);
        return league.matches;
    }

    public int close(int venue, int rounds) throws IndexOutOfBoundsException, IllegalArgumentException {
        if (venue < 0 || venue >= VENUES) {
            throw new IndexOutOfBoundsException("no such venue");
        }
        if (!isMask(rounds)) {
            throw new IllegalArgumentException("rounds are a mask, 0 to 127");
        }
        history.keep(league);
        int previous = league.closedRounds[venue];
        league.closedRounds[venue] = rounds;
        return previous;
    }

    public int away(int setter, int rounds) throws IndexOutOfBoundsException, IllegalArgumentException {
        if (setter < 0 || setter >= SETTERS) {
            throw new IndexOutOfBoundsException("no such setter");
        }
        if (!isMask(rounds)) {
            throw new IllegalArgumentException("rounds are a mask, 0 to 127");
        }
        history.keep(league);
        int previous = league.awayRounds[setter];
        league.awayRounds[setter] = rounds;
        return previous;
    }

    public int stage() {
        history.keep(league);
        return staging.assign(league);
    }

    public int score(int match, int first, int second)
            throws IndexOutOfBoundsException, IllegalArgumentException, IllegalStateException {
        if (!league.hasMatch(match)) {
            throw new IndexOutOfBoundsException("no such match");
        }
        if (!isScore(first) || !isScore(second)) {
            throw new IllegalArgumentException("a score is 0 to 99");
        }
        if (!league.canHaveResult(match)) {
            throw new IllegalStateException("the match has no venue");
        }
        history.keep(league);
        league.give(match, SCORES, first, second);
        return pointsOf(league.firstTeam[match]);
    }

    public int walkover(int match, boolean isSecond) throws IndexOutOfBoundsException, IllegalStateException {
        if (!league.hasMatch(match)) {
            throw new IndexOutOfBoundsException("no such match");
        }
        if (!league.canHaveResult(match)) {
            throw new IllegalStateException("the match has no venue");
        }
        history.keep(league);
        league.give(match, isSecond ? WALKOVER_OF_SECOND : WALKOVER_OF_FIRST, 0, 0);
        return pointsOf(isSecond ? league.secondTeam[match] : league.firstTeam[match]);
    }

    public int annul(int match) throws IndexOutOfBoundsException {
        if (!league.hasMatch(match)) {
            throw new IndexOutOfBoundsException("no such match");
        }
        history.keep(league);
        boolean hadResult = league.result[match] != NO_RESULT;
        league.give(match, NO_RESULT, 0, 0);
        return hadResult ? 1 : 0;
    }

    public int set(int setting, int value) throws IndexOutOfBoundsException, IllegalArgumentException {
        if (setting < 0 || setting >= SETTINGS) {
            throw new IndexOutOfBoundsException("no such setting");
        }
        if (value < LEAST_VALUES[setting] || value > GREATEST_VALUES[setting]) {
            throw new IllegalArgumentException("the setting can't have this value");
        }
        history.keep(league);
        int previous = league.settings[setting];
        league.settings[setting] = value;
        return previous;
    }

    // ---- texts

    public int append(int code) throws IllegalArgumentException, IllegalStateException {
        if (code < 33 || code > 126) {
            throw new IllegalArgumentException("a character code is 33 to 126");
        }
        if (text.length >= ResultText.MOST_CHARACTERS) {
            throw new IllegalStateException("the buffer is full");
        }
        text.add(code);
        return text.length;
    }

    public int clearBuffer() {
        int previous = text.length;
        text.length = 0;
        return previous;
    }

    public int firstError() {
        return text.read();
    }

    public int report() throws IllegalArgumentException, IllegalStateException {
        text.read();
        if (!text.isComplete()) {
            throw new IllegalArgumentException("the buffer is not complete results");
        }
        if (!canReportAll()) {
            throw new IllegalStateException("a match is not there, or has no venue");
        }
        history.keep(league);
        int parts = text.parts();
        for (int part = 0; part < parts; part++) {
            league.give(text.matchOf[part], text.resultOf[part], text.firstOf[part], text.secondOf[part]);
        }
        text.length = 0;
        return league.withResult();
    }

    public int undo() throws IllegalStateException {
        if (history.size == 0) {
            throw new IllegalStateException("nothing is saved");
        }
        history.restore(league);
        return history.size;
    }

    // ---- looks; nothing is changed

    public int match(int match, int what) throws IndexOutOfBoundsException, IllegalArgumentException {
        if (!league.hasMatch(match)) {
            throw new IndexOutOfBoundsException("no such match");
        }
        if (what < 0 || what >= MATCH_PROPERTIES) {
            throw new IllegalArgumentException("a match has the properties 0 to 8");
        }
        return league.property(match, what);
    }

    public int team(int team, int what) throws IndexOutOfBoundsException, IllegalArgumentException {
        if (!league.hasTeam(team)) {
            throw new IndexOutOfBoundsException("no such team");
        }
        if (what < 0 || what >= TEAM_PROPERTIES) {
            throw new IllegalArgumentException("a team has the properties 0 to 8");
        }
        standings.countUp(league);
        return standings.property(team, what);
    }

    public int table(int place) throws IllegalArgumentException {
        if (place < 0) {
            throw new IllegalArgumentException("places are numbered from 0");
        }
        standings.countUp(league);
        return standings.teamAt(place);
    }

    public int busy(int round, int number) throws IndexOutOfBoundsException, IllegalArgumentException {
        if (round < 0 || round >= league.rounds) {
            throw new IndexOutOfBoundsException("no such round");
        }
        if (!isVenueOrSetter(number)) {
            throw new IllegalArgumentException("venues and setters are 0 to 11");
        }
        if (number < VENUES) {
            return league.matchInRound(round, league.venue, number);
        }
        return league.matchInRound(round, league.setter, number - VENUES);
    }

    public int count(int what) throws IllegalArgumentException {
        if (what < 0 || what >= NUMBERS) {
            throw new IllegalArgumentException("the numbers are 0 to 9");
        }
        standings.countUp(league);
        return number(what);
    }

    public int setting(int setting) throws IndexOutOfBoundsException {
        if (setting < 0 || setting >= SETTINGS) {
            throw new IndexOutOfBoundsException("no such setting");
        }
        return league.settings[setting];
    }

    // ---- what would be; nothing is changed

    public int meeting(int team, int other) throws IndexOutOfBoundsException, IllegalArgumentException {
        if (!league.hasTeam(team) || !league.hasTeam(other)) {
            throw new IndexOutOfBoundsException("no such team");
        }
        if (team == other) {
            throw new IllegalArgumentException("a team does not meet itself");
        }
        return league.matchOfBoth(team, other);
    }

    public int bestPlace(int team) throws IndexOutOfBoundsException {
        if (!league.hasTeam(team)) {
            throw new IndexOutOfBoundsException("no such team");
        }
        return placeByWinningAll(team);
    }

    public int isSure(int team) throws IndexOutOfBoundsException {
        if (!league.hasTeam(team)) {
            throw new IndexOutOfBoundsException("no such team");
        }
        standings.countUp(league);
        return standings.isOutOfReach(team, league.settings[POINTS_FOR_WINNING]) ? 1 : 0;
    }

    public int ifMissing(int number) throws IllegalArgumentException {
        if (!isVenueOrSetter(number)) {
            throw new IllegalArgumentException("venues and setters are 0 to 11");
        }
        return assignedWithout(number);
    }

    public double closeness() {
        standings.countUp(league);
        return standings.shareOfLast();
    }

    public long digest() {
        standings.countUp(league);
        long hash = mixLeague(3011L);
        hash = mixMatches(hash);
        hash = mixTeams(hash);
        for (int place = 0; place < league.teams; place++) {
            hash = mix(hash, standings.teamAt(place));
        }
        for (int number = 0; number < VENUES + SETTERS; number++) {
            hash = mix(hash, assignedWithout(number));
        }
        hash = mix(hash, bitsOf(standings.shareOfLast()));
        return mixText(hash);
    }

    private long mixLeague(long start) {
        long hash = start;
        for (int what = 0; what < NUMBERS; what++) {
            hash = mix(hash, number(what));
        }
        for (int setting = 0; setting < SETTINGS; setting++) {
            hash = mix(hash, league.settings[setting]);
        }
        for (int venue = 0; venue < VENUES; venue++) {
            hash = mix(hash, league.closedRounds[venue]);
        }
        for (int setter = 0; setter < SETTERS; setter++) {
            hash = mix(hash, league.awayRounds[setter]);
        }
        return hash;
    }

    private long mixMatches(long start) {
        long hash = start;
        for (int match = 0; match < league.matches; match++) {
            for (int what = 0; what < MATCH_PROPERTIES; what++) {
                hash = mix(hash, league.property(match, what));
            }
        }
        return hash;
    }

    private long mixTeams(long start) {
        long hash = start;
        int forWinning = league.settings[POINTS_FOR_WINNING];
        for (int team = 0; team < league.teams; team++) {
            for (int what = 0; what < TEAM_PROPERTIES; what++) {
                hash = mix(hash, standings.property(team, what));
            }
            hash = mix(hash, placeByWinningAll(team));
            hash = mix(hash, standings.isOutOfReach(team, forWinning) ? 1 : 0);
        }
        return hash;
    }

    private long mixText(long start) {
        long hash = mix(start, text.length);
        for (int at = 0; at < text.length; at++) {
            hash = mix(hash, text.codes[at]);
        }
        return hash;
    }

    private static long mix(long hash, long value) {
        return 31L * hash + value;
    }

    // LANGUAGE.md leaves out Double.doubleToLongBits; closeness() is 0.0 or far from the subnormal.
    private static long bitsOf(double value) {
        if (value == 0.0) {
            return 0L;
        }
        long sign = value < 0.0 ? 1L << 63 : 0L;
        double rest = value < 0.0 ? -value : value;
        long exponent = 1023L;
        while (rest >= 2.0 && exponent < 2046L) {
            rest = rest / 2.0;
            exponent++;
        }
        while (rest < 1.0 && exponent > 1L) {
            rest = rest * 2.0;
            exponent--;
        }
        long fraction = (long) ((rest - 1.0) * (double) (1L << 52));
        return sign | (exponent << 52) | fraction;
    }

    // Needs standings that are counted up, as all that ask for it do once for many numbers.
    private int number(int what) {
        switch (what) {
            case 0: return league.teams;
            case 1: return league.rounds;
            case 2: return league.matches;
            case 3: return league.withVenue();
            case 4: return league.withResult();
            case 5: return league.walkovers();
            case 6: return standings.allPoints();
            case 7: return league.mostOften(league.setter, SETTERS);
            case 8: return league.mostOften(league.venue, VENUES);
            default: return history.size;
        }
    }

    private int pointsOf(int team) {
        standings.countUp(league);
        return standings.property(team, 0);
    }

    private int placeByWinningAll(int team) {
        trial.copyFrom(league);
        trial.winAll(team);
        trialStandings.countUp(trial);
        return trialStandings.placeOf(team);
    }

    private int assignedWithout(int number) {
        trial.copyFrom(league);
        if (number >= 0 && number < VENUES) {
            trial.closedRounds[number] = ALL_ROUNDS;
        } else if (number >= VENUES && number < VENUES + SETTERS) {
            trial.awayRounds[number - VENUES] = ALL_ROUNDS;
        }
        return staging.assign(trial);
    }

    private boolean canReportAll() {
        int parts = text.parts();
        for (int part = 0; part < parts; part++) {
            int match = text.matchOf[part];
            if (!league.hasMatch(match) || !league.canHaveResult(match)) {
                return false;
            }
        }
        return true;
    }

    private static boolean isMask(int rounds) {
        return rounds >= 0 && rounds <= ALL_ROUNDS;
    }

    private static boolean isScore(int score) {
        return score >= 0 && score <= MOST_SCORE;
    }

    private static boolean isVenueOrSetter(int number) {
        return number >= 0 && number < VENUES + SETTERS;
    }

    // All that undo restores. Rows have room for the most matches, so that no call makes new ones.
    private static final class League {
        int teams;
        int rounds;
        int matches;
        final int[] settings = new int[SETTINGS];
        final int[] closedRounds = new int[VENUES];
        final int[] awayRounds = new int[SETTERS];
        final int[] round = new int[MOST_MATCHES];
        final int[] firstTeam = new int[MOST_MATCHES];
        final int[] secondTeam = new int[MOST_MATCHES];
        final int[] venue = new int[MOST_MATCHES];
        final int[] setter = new int[MOST_MATCHES];
        final int[] reason = new int[MOST_MATCHES];
        final int[] result = new int[MOST_MATCHES];
        final int[] firstScore = new int[MOST_MATCHES];
        final int[] secondScore = new int[MOST_MATCHES];

        League() {
            System.arraycopy(VALUES_AT_FIRST, 0, settings, 0, SETTINGS);
            restart(TEAMS_AT_FIRST);
        }

        void restart(int newTeams) {
            teams = newTeams;
            rounds = newTeams % 2 == 0 ? newTeams - 1 : newTeams;
            matches = 0;
            for (int venueNumber = 0; venueNumber < VENUES; venueNumber++) {
                closedRounds[venueNumber] = 0;
            }
            for (int setterNumber = 0; setterNumber < SETTERS; setterNumber++) {
                awayRounds[setterNumber] = 0;
            }
            for (int inRound = 0; inRound < rounds; inRound++) {
                pairRound(inRound);
            }
        }

        // Both sums stay below twice the rounds, so a subtraction does what % would.
        private void pairRound(int inRound) {
            addMatch(inRound, rounds, inRound);
            for (int pair = 1; pair < (rounds + 1) / 2; pair++) {
                int ahead = inRound + pair;
                int behind = inRound - pair;
                addMatch(inRound, ahead >= rounds ? ahead - rounds : ahead, behind < 0 ? behind + rounds : behind);
            }
        }

        private void addMatch(int inRound, int first, int second) {
            if (first >= teams || second >= teams || matches >= MOST_MATCHES) {
                return;
            }
            int match = matches;
            matches++;
            round[match] = inRound;
            firstTeam[match] = first;
            secondTeam[match] = second;
            venue[match] = NONE;
            setter[match] = NONE;
            reason[match] = NO_REASON;
            result[match] = NO_RESULT;
        }

        void copyFrom(League other) {
            teams = other.teams;
            rounds = other.rounds;
            matches = other.matches;
            System.arraycopy(other.settings, 0, settings, 0, SETTINGS);
            System.arraycopy(other.closedRounds, 0, closedRounds, 0, VENUES);
            System.arraycopy(other.awayRounds, 0, awayRounds, 0, SETTERS);
            System.arraycopy(other.round, 0, round, 0, MOST_MATCHES);
            System.arraycopy(other.firstTeam, 0, firstTeam, 0, MOST_MATCHES);
            System.arraycopy(other.secondTeam, 0, secondTeam, 0, MOST_MATCHES);
            System.arraycopy(other.venue, 0, venue, 0, MOST_MATCHES);
            System.arraycopy(other.setter, 0, setter, 0, MOST_MATCHES);
            System.arraycopy(other.reason, 0, reason, 0, MOST_MATCHES);
            System.arraycopy(other.result, 0, result, 0, MOST_MATCHES);
            System.arraycopy(other.firstScore, 0, firstScore, 0, MOST_MATCHES);
            System.arraycopy(other.secondScore, 0, secondScore, 0, MOST_MATCHES);
        }

        boolean hasMatch(int match) {
            return match >= 0 && match < matches;
        }

        boolean hasTeam(int team) {
            return team >= 0 && team < teams;
        }

        boolean canHaveResult(int match) {
            return hasMatch(match) && venue[match] != NONE;
        }

        void give(int match, int newResult, int first, int second) {
            if (!hasMatch(match)) {
                return;
            }
            result[match] = newResult;
            firstScore[match] = first;
            secondScore[match] = second;
        }

        void winAll(int team) {
            for (int match = 0; match < matches; match++) {
                if (result[match] == NO_RESULT && firstTeam[match] == team) {
                    give(match, SCORES, MOST_SCORE, 0);
                } else if (result[match] == NO_RESULT && secondTeam[match] == team) {
                    give(match, SCORES, 0, MOST_SCORE);
                }
            }
        }

        // A walkover's scores are not kept: they follow the setting as it is.
        int scoreOf(int match, boolean ofSecond) {
            if (!hasMatch(match)) {
                return NONE;
            }
            switch (result[match]) {
                case SCORES: return ofSecond ? secondScore[match] : firstScore[match];
                case WALKOVER_OF_FIRST: return ofSecond ? settings[SCORE_OF_A_WALKOVER] : 0;
                case WALKOVER_OF_SECOND: return ofSecond ? 0 : settings[SCORE_OF_A_WALKOVER];
                default: return NONE;
            }
        }

        int property(int match, int what) {
            if (!hasMatch(match)) {
                return NONE;
            }
            switch (what) {
                case 0: return round[match];
                case 1: return firstTeam[match];
                case 2: return secondTeam[match];
                case 3: return venue[match];
                case 4: return setter[match];
                case 5: return reason[match];
                case 6: return scoreOf(match, false);
                case 7: return scoreOf(match, true);
                default: return result[match];
            }
        }

        int matchInRound(int inRound, int[] row, int number) {
            for (int match = 0; match < matches && match < row.length; match++) {
                if (round[match] == inRound && row[match] == number) {
                    return match;
                }
            }
            return NONE;
        }

        int matchOfBoth(int team, int other) {
            for (int match = 0; match < matches; match++) {
                if (firstTeam[match] == team && secondTeam[match] == other
                        || firstTeam[match] == other && secondTeam[match] == team) {
                    return match;
                }
            }
            return NONE;
        }

        int withVenue() {
            int found = 0;
            for (int match = 0; match < matches; match++) {
                if (venue[match] != NONE) {
                    found++;
                }
            }
            return found;
        }

        int withResult() {
            int found = 0;
            for (int match = 0; match < matches; match++) {
                if (result[match] != NO_RESULT) {
                    found++;
                }
            }
            return found;
        }

        int walkovers() {
            int found = 0;
            for (int match = 0; match < matches; match++) {
                if (result[match] == WALKOVER_OF_FIRST || result[match] == WALKOVER_OF_SECOND) {
                    found++;
                }
            }
            return found;
        }

        int mostOften(int[] row, int numbers) {
            int most = 0;
            for (int number = 0; number < numbers; number++) {
                int found = 0;
                for (int match = 0; match < matches && match < row.length; match++) {
                    if (row[match] == number) {
                        found++;
                    }
                }
                most = Math.max(most, found);
            }
            return most;
        }
    }

    // Gives matches their venues and setters, with the loads of both counted along.
    private static final class Staging {
        private final int[] venueLoad = new int[VENUES];
        private final int[] venueRounds = new int[VENUES];
        private final int[] setterLoad = new int[SETTERS];
        private final int[] setterRounds = new int[SETTERS];

        int assign(League league) {
            forgetLoads();
            // All open matches are cleared ahead of the first one: a later one must not hold a venue against it.
            for (int match = 0; match < league.matches; match++) {
                if (league.result[match] == NO_RESULT) {
                    league.venue[match] = NONE;
                    league.setter[match] = NONE;
                } else {
                    load(league.venue[match], league.setter[match], league.round[match]);
                }
            }
            int assigned = 0;
            for (int match = 0; match < league.matches; match++) {
                if (league.result[match] == NO_RESULT && assignOne(league, match)) {
                    assigned++;
                }
            }
            return assigned;
        }

        private boolean assignOne(League league, int match) {
            int venue = freeVenue(league, match);
            if (venue == NONE) {
                league.reason[match] = NO_VENUE;
                return false;
            }
            int setter = freeSetter(league, match);
            if (setter == NONE) {
                league.reason[match] = NO_SETTER;
                return false;
            }
            league.venue[match] = venue;
            league.setter[match] = setter;
            league.reason[match] = NO_REASON;
            load(venue, setter, league.round[match]);
            return true;
        }

        private int freeVenue(League league, int match) {
            int firstHome = league.firstTeam[match] % VENUES;
            int secondHome = league.secondTeam[match] % VENUES;
            int bit = 1 << league.round[match];
            int best = NONE;
            int fewest = MOST_MATCHES + 1;
            for (int venue = 0; venue < VENUES; venue++) {
                boolean isNeutral = venue != firstHome && venue != secondHome;
                boolean isFree = ((league.closedRounds[venue] | venueRounds[venue]) & bit) == 0;
                if (isNeutral && isFree && venueLoad[venue] < fewest) {
                    best = venue;
                    fewest = venueLoad[venue];
                }
            }
            return best;
        }

        private int freeSetter(League league, int match) {
            int bit = 1 << league.round[match];
            int best = NONE;
            int fewest = league.settings[MOST_OF_A_SETTER];
            for (int setter = 0; setter < SETTERS; setter++) {
                int owner = league.teams > 0 ? setter % league.teams : NONE;
                boolean maySet = owner != league.firstTeam[match] && owner != league.secondTeam[match];
                boolean isFree = ((league.awayRounds[setter] | setterRounds[setter]) & bit) == 0;
                if (maySet && isFree && setterLoad[setter] < fewest) {
                    best = setter;
                    fewest = setterLoad[setter];
                }
            }
            return best;
        }

        private void forgetLoads() {
            for (int venue = 0; venue < VENUES; venue++) {
                venueLoad[venue] = 0;
                venueRounds[venue] = 0;
            }
            for (int setter = 0; setter < SETTERS; setter++) {
                setterLoad[setter] = 0;
                setterRounds[setter] = 0;
            }
        }

        private void load(int venue, int setter, int round) {
            if (venue < 0 || venue >= VENUES || setter < 0 || setter >= SETTERS) {
                return;
            }
            venueLoad[venue]++;
            venueRounds[venue] |= 1 << round;
            setterLoad[setter]++;
            setterRounds[setter] |= 1 << round;
        }
    }

    // What the results of a league add up to, as far as countUp was called behind its last change.
    private static final class Standings {
        private int teams;
        private final int[] points = new int[MOST_TEAMS];
        private final int[] played = new int[MOST_TEAMS];
        private final int[] won = new int[MOST_TEAMS];
        private final int[] equal = new int[MOST_TEAMS];
        private final int[] scored = new int[MOST_TEAMS];
        private final int[] conceded = new int[MOST_TEAMS];
        private final int[] walkovers = new int[MOST_TEAMS];
        private final int[] open = new int[MOST_TEAMS];

        void countUp(League league) {
            teams = Math.min(league.teams, MOST_TEAMS);
            for (int team = 0; team < teams; team++) {
                points[team] = 0;
                played[team] = 0;
                won[team] = 0;
                equal[team] = 0;
                scored[team] = 0;
                conceded[team] = 0;
                walkovers[team] = 0;
                open[team] = 0;
            }
            for (int match = 0; match < league.matches; match++) {
                addOneSide(league, match, false);
                addOneSide(league, match, true);
            }
        }

        private void addOneSide(League league, int match, boolean ofSecond) {
            int team = ofSecond ? league.secondTeam[match] : league.firstTeam[match];
            if (!hasTeam(team)) {
                return;
            }
            int result = league.result[match];
            if (result == NO_RESULT) {
                open[team]++;
                return;
            }
            addScores(league, team, league.scoreOf(match, ofSecond), league.scoreOf(match, !ofSecond));
            if (result == (ofSecond ? WALKOVER_OF_SECOND : WALKOVER_OF_FIRST)) {
                walkovers[team]++;
                points[team]--;
            }
        }

        private void addScores(League league, int team, int own, int against) {
            if (!hasTeam(team)) {
                return;
            }
            played[team]++;
            scored[team] += own;
            conceded[team] += against;
            if (own > against) {
                won[team]++;
                points[team] += league.settings[POINTS_FOR_WINNING];
            } else if (own == against) {
                equal[team]++;
                points[team] += league.settings[POINTS_FOR_EQUAL_SCORES];
            }
        }

        private boolean hasTeam(int team) {
            return team >= 0 && team < teams;
        }

        int property(int team, int what) {
            if (!hasTeam(team)) {
                return NONE;
            }
            switch (what) {
                case 0: return points[team];
                case 1: return played[team];
                case 2: return won[team];
                case 3: return equal[team];
                case 4: return scored[team];
                case 5: return conceded[team];
                case 6: return walkovers[team];
                case 7: return placeOf(team);
                default: return open[team];
            }
        }

        int allPoints() {
            int sum = 0;
            for (int team = 0; team < teams; team++) {
                sum += points[team];
            }
            return sum;
        }

        int placeOf(int team) {
            int place = 0;
            for (int other = 0; other < teams; other++) {
                if (other != team && isAhead(other, team)) {
                    place++;
                }
            }
            return place;
        }

        int teamAt(int place) {
            for (int team = 0; team < teams; team++) {
                if (placeOf(team) == place) {
                    return team;
                }
            }
            return NONE;
        }

        private boolean isAhead(int one, int other) {
            if (!hasTeam(one) || !hasTeam(other)) {
                return false;
            }
            if (points[one] != points[other]) {
                return points[one] > points[other];
            }
            int ofOne = scored[one] - conceded[one];
            int ofOther = scored[other] - conceded[other];
            if (ofOne != ofOther) {
                return ofOne > ofOther;
            }
            if (scored[one] != scored[other]) {
                return scored[one] > scored[other];
            }
            return one < other;
        }

        boolean isOutOfReach(int team, int forWinning) {
            if (!hasTeam(team)) {
                return false;
            }
            for (int other = 0; other < teams; other++) {
                if (other != team && points[other] + open[other] * forWinning >= points[team]) {
                    return false;
                }
            }
            return true;
        }

        double shareOfLast() {
            int first = property(teamAt(0), 0);
            int last = property(teamAt(teams - 1), 0);
            return first <= 0 ? 1.0 : (double) last / (double) first;
        }
    }

    private static final class History {
        private static final int MOST_STATES = 6;

        int size;
        private final League[] states = new League[MOST_STATES];

        History() {
            for (int at = 0; at < MOST_STATES; at++) {
                states[at] = new League();
            }
        }

        void keep(League league) {
            if (size >= MOST_STATES) {
                dropOldest();
            }
            if (size >= 0 && size < MOST_STATES) {
                states[size].copyFrom(league);
                size++;
            }
        }

        // The dropped object comes to the end, where the next state is written over it.
        private void dropOldest() {
            League oldest = states[0];
            for (int at = 1; at < MOST_STATES; at++) {
                states[at - 1] = states[at];
            }
            states[MOST_STATES - 1] = oldest;
            size = MOST_STATES - 1;
        }

        void restore(League league) {
            if (size > 0 && size <= MOST_STATES) {
                size--;
                league.copyFrom(states[size]);
            }
        }
    }

    // The buffer, and what its text says as far as it was read.
    private static final class ResultText {
        static final int MOST_CHARACTERS = 60;
        // The shortest part has 4 characters and a ";", so 60 characters begin 12 parts at most.
        private static final int MOST_PARTS = 12;
        private static final int MOST_MATCH_NUMBER = 27;

        private static final int BEFORE_MATCH = 0;
        private static final int IN_MATCH = 1;
        private static final int BEFORE_RESULT = 2;
        private static final int IN_FIRST_SCORE = 3;
        private static final int BEFORE_SECOND_SCORE = 4;
        private static final int IN_SECOND_SCORE = 5;
        private static final int BEFORE_GIVER = 6;
        private static final int BEHIND_GIVER = 7;
        private static final int WRONG = 8;

        int length;
        final int[] codes = new int[MOST_CHARACTERS];
        final int[] matchOf = new int[MOST_PARTS];
        final int[] resultOf = new int[MOST_PARTS];
        final int[] firstOf = new int[MOST_PARTS];
        final int[] secondOf = new int[MOST_PARTS];
        private int part;
        private int state;

        void add(int code) {
            if (length >= 0 && length < MOST_CHARACTERS) {
                codes[length] = code;
                length++;
            }
        }

        int read() {
            part = 0;
            state = BEFORE_MATCH;
            for (int at = 0; at < length && at < MOST_CHARACTERS; at++) {
                state = part < MOST_PARTS ? next(codes[at]) : WRONG;
                if (state == WRONG) {
                    return at;
                }
            }
            return length;
        }

        boolean isComplete() {
            return state == IN_SECOND_SCORE || state == BEHIND_GIVER;
        }

        int parts() {
            return isComplete() ? Math.min(part + 1, MOST_PARTS) : 0;
        }

        private int next(int code) {
            switch (state) {
                case BEFORE_MATCH: return beginNumber(matchOf, code, IN_MATCH);
                case IN_MATCH: return code == '=' ? BEFORE_RESULT : growNumber(matchOf, code, MOST_MATCH_NUMBER);
                case BEFORE_RESULT: return code == 'w' ? BEFORE_GIVER : beginNumber(firstOf, code, IN_FIRST_SCORE);
                case IN_FIRST_SCORE: return code == ':' ? BEFORE_SECOND_SCORE : growNumber(firstOf, code, MOST_SCORE);
                case BEFORE_SECOND_SCORE: return beginSecondScore(code);
                case IN_SECOND_SCORE: return code == ';' ? endPart() : growNumber(secondOf, code, MOST_SCORE);
                case BEFORE_GIVER: return takeGiver(code);
                case BEHIND_GIVER: return code == ';' ? endPart() : WRONG;
                default: return WRONG;
            }
        }

        private int beginNumber(int[] row, int code, int inNumber) {
            if (code < '0' || code > '9' || part < 0 || part >= row.length) {
                return WRONG;
            }
            row[part] = code - '0';
            return inNumber;
        }

        private int growNumber(int[] row, int code, int most) {
            if (code < '0' || code > '9' || part < 0 || part >= row.length) {
                return WRONG;
            }
            int grown = row[part] * 10 + code - '0';
            if (row[part] == 0 || grown > most) {
                return WRONG;
            }
            row[part] = grown;
            return state;
        }

        private int beginSecondScore(int code) {
            if (part < 0 || part >= MOST_PARTS) {
                return WRONG;
            }
            resultOf[part] = SCORES;
            return beginNumber(secondOf, code, IN_SECOND_SCORE);
        }

        private int takeGiver(int code) {
            if (code != '1' && code != '2' || part < 0 || part >= MOST_PARTS) {
                return WRONG;
            }
            resultOf[part] = code == '1' ? WALKOVER_OF_FIRST : WALKOVER_OF_SECOND;
            firstOf[part] = 0;
            secondOf[part] = 0;
            return BEHIND_GIVER;
        }

        private int endPart() {
            part++;
            return BEFORE_MATCH;
        }
    }
}
