/**
 * A weighing platform on three load cells, with exact odds of hypotheses, plans of tests,
 * repeated trials, and supporters assigned to sessions.
 */
public final class TripodScale {
    public static final int NONE = -1;

    private static final int CELLS = 3;
    private static final int REACH = 100;
    private static final int MAX_CAPACITY = 100000;
    private static final int FIRST_CAPACITY = 5000;
    private static final int MAX_OBJECTS = 8;
    private static final int MAX_OBJECT_WEIGHT = 1000;
    private static final int MAX_RESOLUTION = 100;

    private static final int MAX_HYPOTHESES = 8;
    private static final int FIRST_HYPOTHESES = 2;
    private static final int MAX_SET_WEIGHT = 1000000;
    private static final long MAX_WEIGHT = 1000000000000000L;
    private static final int MAX_TESTS = 10;
    private static final int OUTCOMES = 3;
    private static final int TENTHS = 10;
    private static final int MAX_PLAN = 3;

    private static final int MAX_TRIALS = 15;
    private static final int MAX_LIMIT = 1000;

    private static final int MAX_SUPPORTERS = 8;
    private static final int MAX_SESSIONS = 8;
    private static final int MAX_STRENGTH = 100000;
    private static final int MAX_HOURS = 16777215;
    private static final int LAST_HOUR = 23;

    private static final int MAX_SAVED = 4;
    private static final long HASH_START = 2801;

    private final State state;
    private final State[] saved;
    private int savedCount;

    private final Planner planner;
    private final Assignment assignment;
    private final long[] outcomeWeights;

    public TripodScale() {
        state = new State();
        saved = new State[MAX_SAVED];
        for (int i = 0; i < MAX_SAVED; i++) {
            saved[i] = new State();
        }
        savedCount = 0;
        planner = new Planner();
        assignment = new Assignment();
        outcomeWeights = new long[MAX_HYPOTHESES];
    }

    // ---- platform

    public int setCell(int cell, int x, int y, int capacity) throws IndexOutOfBoundsException, IllegalArgumentException {
        requireIndex(cell, CELLS);
        requirePlace(x, y);
        requireRange(capacity, 1, MAX_CAPACITY);
        if (state.platform.wouldLieOnOneLine(cell, x, y)) {
            throw new IllegalArgumentException("the cells would lie on one line");
        }
        save();
        return state.platform.changeCell(cell, x, y, capacity);
    }

    public int place(int x, int y, int weight) throws IllegalArgumentException, IllegalStateException {
        requirePlace(x, y);
        requireRange(weight, 1, MAX_OBJECT_WEIGHT);
        requireSpace(state.platform.objects, MAX_OBJECTS);
        save();
        return state.platform.addObject(x, y, weight);
    }

    public int lift(int object) throws IndexOutOfBoundsException {
        requireIndex(object, state.platform.objects);
        save();
        return state.platform.removeObject(object);
    }

    public long load(int cell, int part) throws IndexOutOfBoundsException, IllegalArgumentException {
        requireIndex(cell, CELLS);
        requireRange(part, 0, 1);
        return state.platform.loadPart(cell, part);
    }

    public int reading(int cell, int resolution) throws IndexOutOfBoundsException, IllegalArgumentException {
        requireIndex(cell, CELLS);
        requireRange(resolution, 1, MAX_RESOLUTION);
        return state.platform.shownLoad(cell, resolution);
    }

    public boolean isStable() {
        return state.platform.hasNoNegativeLoad();
    }

    public int overloaded() {
        return state.platform.overloadedCells();
    }

    public int room(int x, int y) throws IllegalArgumentException {
        requirePlace(x, y);
        return state.platform.greatestAddition(x, y);
    }

    // ---- hypotheses and tests

    public int setHypotheses(int count) throws IllegalArgumentException {
        requireRange(count, 1, MAX_HYPOTHESES);
        save();
        int previous = state.beliefs.hypotheses;
        state.beliefs.restart(count);
        return previous;
    }

    public long setWeight(int hypothesis, int weight) throws IndexOutOfBoundsException, IllegalArgumentException, IllegalStateException {
        requireIndex(hypothesis, state.beliefs.hypotheses);
        requireRange(weight, 0, MAX_SET_WEIGHT);
        if (weight == 0 && state.beliefs.othersAreZero(hypothesis)) {
            throw new IllegalStateException("all weights would be 0");
        }
        save();
        return state.beliefs.changeWeight(hypothesis, weight);
    }

    public int addTest() throws IllegalStateException {
        requireSpace(state.beliefs.tests, MAX_TESTS);
        save();
        return state.beliefs.appendTest();
    }

    public int setChances(int test, int hypothesis, int chance0, int chance1) throws IndexOutOfBoundsException, IllegalArgumentException {
        requireIndex(test, state.beliefs.tests);
        requireIndex(hypothesis, state.beliefs.hypotheses);
        requireRange(chance0, 0, TENTHS);
        requireRange(chance1, 0, TENTHS - chance0);
        save();
        return state.beliefs.changeChances(test, hypothesis, chance0, chance1);
    }

    public int observe(int test, int outcome) throws IndexOutOfBoundsException, IllegalArgumentException, IllegalStateException, ArithmeticException {
        requireIndex(test, state.beliefs.tests);
        requireRange(outcome, 0, OUTCOMES - 1);
        state.beliefs.multiply(state.beliefs.weights, test, outcome, outcomeWeights);
        state.beliefs.reduce(outcomeWeights);
        long greatest = state.beliefs.greatest(outcomeWeights);
        if (greatest == 0) {
            throw new IllegalStateException("all weights would be 0");
        }
        if (greatest > MAX_WEIGHT) {
            throw new ArithmeticException("a weight would be too great");
        }
        save();
        state.beliefs.takeWeights(outcomeWeights);
        return state.beliefs.mostProbable();
    }

    public long odds(int hypothesis, int part) throws IndexOutOfBoundsException, IllegalArgumentException {
        requireIndex(hypothesis, state.beliefs.hypotheses);
        requireRange(part, 0, 1);
        return Fractions.partOf(state.beliefs.weights[hypothesis], state.beliefs.weightSum(), part);
    }

    public long planValue(int tests, int part) throws IllegalArgumentException, IllegalStateException {
        requireRange(tests, 0, MAX_PLAN);
        requireRange(part, 0, 1);
        if (tests > 0) {
            requireTests();
        }
        long reached = planner.bestValue(state.beliefs, tests);
        return Fractions.partOf(reached, Trials.power(TENTHS, tests) * state.beliefs.weightSum(), part);
    }

    public int planFirst(int tests) throws IllegalArgumentException, IllegalStateException {
        requireRange(tests, 1, MAX_PLAN);
        requireTests();
        return planner.bestFirstTest(state.beliefs, tests);
    }

    // ---- trials

    public long tail(int trials, int successes, int chance) throws IllegalArgumentException {
        requireRange(trials, 0, MAX_TRIALS);
        requireRange(successes, 0, MAX_TRIALS + 1);
        requireRange(chance, 0, TENTHS);
        return Trials.atLeast(trials, successes, chance);
    }

    public int fewestTrials(int chance0, int chance1, int limit) throws IllegalArgumentException {
        requireRange(chance0, 0, TENTHS);
        requireRange(chance1, 0, TENTHS);
        requireRange(limit, 1, MAX_LIMIT);
        return Trials.smallestPlan(chance0, chance1, limit);
    }

    // ---- supporters

    public int addSupporter(int strength, int hours) throws IllegalArgumentException, IllegalStateException {
        requireRange(strength, 1, MAX_STRENGTH);
        requireRange(hours, 0, MAX_HOURS);
        requireSpace(state.roster.supporters, MAX_SUPPORTERS);
        save();
        return state.roster.appendSupporter(strength, hours);
    }

    public int addSession(int load, int hour) throws IllegalArgumentException, IllegalStateException {
        requireRange(load, 1, MAX_STRENGTH);
        requireRange(hour, 0, LAST_HOUR);
        requireSpace(state.roster.sessions, MAX_SESSIONS);
        save();
        return state.roster.appendSession(load, hour);
    }

    public int clearSessions() {
        save();
        return state.roster.removeAll();
    }

    public int covered() {
        assignment.solve(state.roster);
        return assignment.coveredCount;
    }

    public int supporterOf(int session) throws IndexOutOfBoundsException {
        requireIndex(session, state.roster.sessions);
        assignment.solve(state.roster);
        return assignment.taker[session];
    }

    // ---- state

    public int undo() throws IllegalStateException {
        if (savedCount == 0) {
            throw new IllegalStateException("there is no saved state");
        }
        savedCount--;
        state.copyFrom(saved[savedCount]);
        return savedCount;
    }

    public long digest() {
        assignment.solve(state.roster);
        long hash = state.platform.mixedInto(HASH_START);
        hash = state.beliefs.mixedInto(hash);
        hash = state.roster.mixedInto(hash, assignment);
        return mix(hash, savedCount);
    }

    private static long mix(long hash, long value) {
        return 31 * hash + value;
    }

    /** The states themselves are used again: the dropped one takes the newest copy. */
    private void save() {
        if (savedCount == MAX_SAVED) {
            State oldest = saved[0];
            for (int i = 1; i < MAX_SAVED; i++) {
                saved[i - 1] = saved[i];
            }
            saved[MAX_SAVED - 1] = oldest;
            savedCount--;
        }
        saved[savedCount].copyFrom(state);
        savedCount++;
    }

    private static void requireIndex(int index, int count) {
        if (index < 0 || index >= count) {
            throw new IndexOutOfBoundsException("there is no such number");
        }
    }

    private static void requireRange(int value, int lowest, int highest) {
        if (value < lowest || value > highest) {
            throw new IllegalArgumentException("an argument is out of range");
        }
    }

    private static void requirePlace(int x, int y) {
        requireRange(x, -REACH, REACH);
        requireRange(y, -REACH, REACH);
    }

    private static void requireSpace(int count, int limit) {
        if (count >= limit) {
            throw new IllegalStateException("there is no space for one more");
        }
    }

    private void requireTests() {
        if (state.beliefs.tests == 0) {
            throw new IllegalStateException("there are no tests");
        }
    }

    /** Everything that undo brings back. */
    private static final class State {
        final Platform platform = new Platform();
        final Beliefs beliefs = new Beliefs();
        final Roster roster = new Roster();

        void copyFrom(State other) {
            platform.copyFrom(other.platform);
            beliefs.copyFrom(other.beliefs);
            roster.copyFrom(other.roster);
        }
    }

    private static final class Fractions {
        // Euclid needs fewer than 100 steps for longs.
        private static final int EUCLID_STEPS = 200;

        static long gcd(long a, long b) {
            long larger = Math.abs(a);
            long smaller = Math.abs(b);
            for (int step = 0; step < EUCLID_STEPS && smaller != 0; step++) {
                long rest = larger % smaller;
                larger = smaller;
                smaller = rest;
            }
            return larger;
        }

        /** A part of the fraction in lowest terms; the denominator is above 0. */
        static long partOf(long numerator, long denominator, int part) {
            long divisor = gcd(numerator, denominator);
            long asked = part == 0 ? numerator : denominator;
            return divisor == 0 ? 0 : asked / divisor;
        }
    }

    /**
     * The loads are kept as whole numerators over one denominator, twice the area of the
     * triangle of the cells: a weight loads a cell by the area that it spans with the two others.
     */
    private static final class Platform {
        final int[] cellX = {0, REACH, 0};
        final int[] cellY = {0, 0, REACH};
        final int[] capacity = {FIRST_CAPACITY, FIRST_CAPACITY, FIRST_CAPACITY};
        int objects;
        final int[] objectX = new int[MAX_OBJECTS];
        final int[] objectY = new int[MAX_OBJECTS];
        final int[] objectWeight = new int[MAX_OBJECTS];

        void copyFrom(Platform other) {
            System.arraycopy(other.cellX, 0, cellX, 0, CELLS);
            System.arraycopy(other.cellY, 0, cellY, 0, CELLS);
            System.arraycopy(other.capacity, 0, capacity, 0, CELLS);
            objects = other.objects;
            System.arraycopy(other.objectX, 0, objectX, 0, MAX_OBJECTS);
            System.arraycopy(other.objectY, 0, objectY, 0, MAX_OBJECTS);
            System.arraycopy(other.objectWeight, 0, objectWeight, 0, MAX_OBJECTS);
        }

        int changeCell(int cell, int x, int y, int newCapacity) {
            int previous = capacity[cell];
            cellX[cell] = x;
            cellY[cell] = y;
            capacity[cell] = newCapacity;
            return previous;
        }

        int addObject(int x, int y, int weight) {
            int object = objects;
            objectX[object] = x;
            objectY[object] = y;
            objectWeight[object] = weight;
            objects++;
            return object;
        }

        int removeObject(int object) {
            int weight = objectWeight[object];
            for (int i = object + 1; i < objects; i++) {
                objectX[i - 1] = objectX[i];
                objectY[i - 1] = objectY[i];
                objectWeight[i - 1] = objectWeight[i];
            }
            objects--;
            return weight;
        }

        boolean wouldLieOnOneLine(int cell, int x, int y) {
            return signedArea(cell, x, y) == 0;
        }

        /** Twice the area, with its sign, of the triangle in which the place stands for the cell. */
        private long signedArea(int cell, int x, int y) {
            int next = (cell + 1) % CELLS;
            int last = (cell + 2) % CELLS;
            return (long) (cellX[next] - x) * (cellY[last] - y) - (long) (cellX[last] - x) * (cellY[next] - y);
        }

        /** The numerator of the load that a weight of 1 at the place puts on the cell. */
        private long share(int cell, int x, int y) {
            long area = signedArea(cell, x, y);
            return signedArea(0, cellX[0], cellY[0]) < 0 ? -area : area;
        }

        /** A weight at a cell's own place loads that cell with all of it. */
        private long denominator() {
            return share(0, cellX[0], cellY[0]);
        }

        private long numerator(int cell) {
            long sum = 0;
            for (int i = 0; i < objects; i++) {
                sum += objectWeight[i] * share(cell, objectX[i], objectY[i]);
            }
            return sum;
        }

        long loadPart(int cell, int part) {
            return Fractions.partOf(numerator(cell), denominator(), part);
        }

        int shownLoad(int cell, int resolution) {
            long unit = denominator() * resolution;
            return unit == 0 ? 0 : (int) (Math.floorDiv(numerator(cell), unit) * resolution);
        }

        boolean hasNoNegativeLoad() {
            for (int cell = 0; cell < CELLS; cell++) {
                if (numerator(cell) < 0) {
                    return false;
                }
            }
            return true;
        }

        int overloadedCells() {
            int cells = 0;
            for (int cell = 0; cell < CELLS; cell++) {
                if (spare(cell) < 0) {
                    cells |= 1 << cell;
                }
            }
            return cells;
        }

        /** The numerator of what the cell can bear beyond its load. */
        private long spare(int cell) {
            return capacity[cell] * denominator() - numerator(cell);
        }

        int greatestAddition(int x, int y) {
            if (!hasNoNegativeLoad() || overloadedCells() != 0) {
                return NONE;
            }
            // The loads of the cells have the sum of all weights, so no more than this is ever borne.
            long greatest = CELLS * MAX_CAPACITY;
            for (int cell = 0; cell < CELLS; cell++) {
                long share = share(cell, x, y);
                if (share > 0) {
                    greatest = Math.min(greatest, spare(cell) / share);
                } else if (share < 0) {
                    greatest = Math.min(greatest, numerator(cell) / -share);
                }
            }
            return (int) greatest;
        }

        long mixedInto(long start) {
            long hash = start;
            for (int cell = 0; cell < CELLS; cell++) {
                hash = mix(hash, cellX[cell]);
                hash = mix(hash, cellY[cell]);
                hash = mix(hash, capacity[cell]);
                hash = mix(hash, loadPart(cell, 0));
                hash = mix(hash, loadPart(cell, 1));
            }
            hash = mix(hash, hasNoNegativeLoad() ? 1 : 0);
            hash = mix(hash, overloadedCells());
            hash = mix(hash, objects);
            for (int i = 0; i < objects; i++) {
                hash = mix(hash, objectX[i]);
                hash = mix(hash, objectY[i]);
                hash = mix(hash, objectWeight[i]);
            }
            return hash;
        }
    }

    /** The hypotheses with their weights, and the tests with their chances. */
    private static final class Beliefs {
        int hypotheses = FIRST_HYPOTHESES;
        final long[] weights = new long[MAX_HYPOTHESES];
        int tests;
        // A test's row holds the three chances of hypothesis 0, then those of hypothesis 1, and so on.
        final int[][] chances = new int[MAX_TESTS][MAX_HYPOTHESES * OUTCOMES];

        Beliefs() {
            for (int i = 0; i < FIRST_HYPOTHESES; i++) {
                weights[i] = 1;
            }
        }

        void copyFrom(Beliefs other) {
            hypotheses = other.hypotheses;
            System.arraycopy(other.weights, 0, weights, 0, MAX_HYPOTHESES);
            tests = other.tests;
            for (int test = 0; test < tests; test++) {
                System.arraycopy(other.chances[test], 0, chances[test], 0, MAX_HYPOTHESES * OUTCOMES);
            }
        }

        void restart(int count) {
            hypotheses = count;
            for (int i = 0; i < hypotheses; i++) {
                weights[i] = 1;
            }
            for (int test = 0; test < tests; test++) {
                resetChances(test);
            }
        }

        private void resetChances(int test) {
            for (int i = 0; i < MAX_HYPOTHESES; i++) {
                changeChances(test, i, 0, 0);
            }
        }

        int changeChances(int test, int hypothesis, int chance0, int chance1) {
            int[] row = chances[test];
            int first = hypothesis * OUTCOMES;
            row[first] = chance0;
            row[first + 1] = chance1;
            row[first + 2] = TENTHS - chance0 - chance1;
            return row[first + 2];
        }

        int appendTest() {
            int test = tests;
            resetChances(test);
            tests++;
            return test;
        }

        boolean othersAreZero(int hypothesis) {
            for (int i = 0; i < hypotheses; i++) {
                if (i != hypothesis && weights[i] != 0) {
                    return false;
                }
            }
            return true;
        }

        long changeWeight(int hypothesis, long weight) {
            long previous = weights[hypothesis];
            weights[hypothesis] = weight;
            return previous;
        }

        void takeWeights(long[] row) {
            System.arraycopy(row, 0, weights, 0, hypotheses);
        }

        /** Multiplies each weight of a row by its chance of the outcome, into another row. */
        void multiply(long[] from, int test, int outcome, long[] to) {
            int[] row = chances[test];
            for (int i = 0; i < hypotheses; i++) {
                to[i] = from[i] * row[i * OUTCOMES + outcome];
            }
        }

        /** Divides a row by the greatest common divisor of its weights. */
        void reduce(long[] row) {
            long divisor = 0;
            for (int i = 0; i < hypotheses; i++) {
                divisor = Fractions.gcd(divisor, row[i]);
            }
            if (divisor == 0) {
                return;
            }
            for (int i = 0; i < hypotheses; i++) {
                row[i] /= divisor;
            }
        }

        long greatest(long[] row) {
            long greatest = 0;
            for (int i = 0; i < hypotheses; i++) {
                greatest = Math.max(greatest, row[i]);
            }
            return greatest;
        }

        int mostProbable() {
            int best = 0;
            for (int i = 1; i < hypotheses; i++) {
                if (weights[i] > weights[best]) {
                    best = i;
                }
            }
            return best;
        }

        long weightSum() {
            long sum = 0;
            for (int i = 0; i < hypotheses; i++) {
                sum += weights[i];
            }
            return sum;
        }

        long mixedInto(long start) {
            long hash = mix(start, hypotheses);
            for (int i = 0; i < hypotheses; i++) {
                hash = mix(hash, weights[i]);
            }
            hash = mix(hash, tests);
            for (int test = 0; test < tests; test++) {
                for (int i = 0; i < hypotheses * OUTCOMES; i++) {
                    hash = mix(hash, chances[test][i]);
                }
            }
            return hash;
        }
    }

    /**
     * The values F(d, w) of the document. They stay below 10^3 * 8 * 10^15, so a long holds them.
     * Row d holds the weights with d tests still to come.
     */
    private static final class Planner {
        private final long[][] rows = new long[MAX_PLAN + 1][MAX_HYPOTHESES];

        long bestValue(Beliefs beliefs, int depth) {
            begin(beliefs, depth);
            return greatestValue(beliefs, rows, depth);
        }

        int bestFirstTest(Beliefs beliefs, int depth) {
            begin(beliefs, depth);
            long best = -1;
            int first = NONE;
            for (int test = 0; test < beliefs.tests; test++) {
                long value = valueOfTest(beliefs, rows, depth, test);
                if (value > best) {
                    best = value;
                    first = test;
                }
            }
            return first;
        }

        private void begin(Beliefs beliefs, int depth) {
            System.arraycopy(beliefs.weights, 0, rows[depth], 0, MAX_HYPOTHESES);
        }

        private static long greatestValue(Beliefs beliefs, long[][] rows, int depth) {
            if (depth <= 0) {
                return beliefs.greatest(rows[0]);
            }
            long best = 0;
            for (int test = 0; test < beliefs.tests; test++) {
                best = Math.max(best, valueOfTest(beliefs, rows, depth, test));
            }
            return best;
        }

        private static long valueOfTest(Beliefs beliefs, long[][] rows, int depth, int test) {
            if (depth <= 0 || depth > MAX_PLAN) {
                return 0;
            }
            long sum = 0;
            for (int outcome = 0; outcome < OUTCOMES; outcome++) {
                beliefs.multiply(rows[depth], test, outcome, rows[depth - 1]);
                sum += greatestValue(beliefs, rows, depth - 1);
            }
            return sum;
        }
    }

    private static final class Trials {
        static long power(int base, int exponent) {
            long power = 1;
            for (int i = 0; i < exponent; i++) {
                power *= base;
            }
            return power;
        }

        /** The number of ways to choose some of up to 15. */
        private static long ways(int of, int chosen) {
            long ways = 1;
            for (int i = 1; i <= chosen; i++) {
                ways = ways * (of - chosen + i) / i;
            }
            return ways;
        }

        static long atLeast(int trials, int successes, int chance) {
            long sum = 0;
            for (int k = successes; k <= trials; k++) {
                sum += ways(trials, k) * power(chance, k) * power(TENTHS - chance, trials - k);
            }
            return sum;
        }

        static int smallestPlan(int chance0, int chance1, int limit) {
            for (int trials = 0; trials <= MAX_TRIALS; trials++) {
                long whole = power(TENTHS, trials);
                for (int successes = 0; successes <= trials + 1; successes++) {
                    boolean fewFalseAlarms = limit * atLeast(trials, successes, chance0) <= whole;
                    if (fewFalseAlarms && limit * (whole - atLeast(trials, successes, chance1)) <= whole) {
                        return 100 * trials + successes;
                    }
                }
            }
            return NONE;
        }
    }

    private static final class Roster {
        int supporters;
        final int[] strength = new int[MAX_SUPPORTERS];
        final int[] hours = new int[MAX_SUPPORTERS];
        int sessions;
        final int[] sessionLoad = new int[MAX_SESSIONS];
        final int[] sessionHour = new int[MAX_SESSIONS];

        void copyFrom(Roster other) {
            supporters = other.supporters;
            System.arraycopy(other.strength, 0, strength, 0, MAX_SUPPORTERS);
            System.arraycopy(other.hours, 0, hours, 0, MAX_SUPPORTERS);
            sessions = other.sessions;
            System.arraycopy(other.sessionLoad, 0, sessionLoad, 0, MAX_SESSIONS);
            System.arraycopy(other.sessionHour, 0, sessionHour, 0, MAX_SESSIONS);
        }

        int appendSupporter(int newStrength, int newHours) {
            int supporter = supporters;
            strength[supporter] = newStrength;
            hours[supporter] = newHours;
            supporters++;
            return supporter;
        }

        int appendSession(int newLoad, int newHour) {
            int session = sessions;
            sessionLoad[session] = newLoad;
            sessionHour[session] = newHour;
            sessions++;
            return session;
        }

        int removeAll() {
            int removed = supporters + sessions;
            supporters = 0;
            sessions = 0;
            return removed;
        }

        boolean canTake(int supporter, int session) {
            boolean hasHour = (hours[supporter] >> sessionHour[session] & 1) == 1;
            return hasHour && strength[supporter] >= sessionLoad[session];
        }

        long mixedInto(long start, Assignment assignment) {
            long hash = mix(start, supporters);
            for (int i = 0; i < supporters; i++) {
                hash = mix(hash, strength[i]);
                hash = mix(hash, hours[i]);
            }
            hash = mix(hash, sessions);
            for (int i = 0; i < sessions; i++) {
                hash = mix(hash, sessionLoad[i]);
                hash = mix(hash, sessionHour[i]);
                hash = mix(hash, assignment.taker[i]);
            }
            return hash;
        }
    }

    /** The assignment of a roster, found anew by each call of solve. */
    private static final class Assignment {
        // most[s][used]: the most sessions from s on that supporters outside the bit set can cover.
        private final int[][] most = new int[MAX_SESSIONS + 1][1 << MAX_SUPPORTERS];
        final int[] taker = new int[MAX_SESSIONS];
        int coveredCount;

        void solve(Roster roster) {
            fill(roster);
            coveredCount = most[0][0];
            int used = 0;
            for (int session = 0; session < roster.sessions; session++) {
                taker[session] = firstTaker(roster, session, used);
                if (taker[session] != NONE) {
                    used |= 1 << taker[session];
                }
            }
        }

        private void fill(Roster roster) {
            int sets = 1 << roster.supporters;
            for (int used = 0; used < sets; used++) {
                most[roster.sessions][used] = 0;
            }
            for (int session = roster.sessions - 1; session >= 0; session--) {
                for (int used = 0; used < sets; used++) {
                    most[session][used] = mostFrom(roster, session, used);
                }
            }
        }

        private int mostFrom(Roster roster, int session, int used) {
            int best = most[session + 1][used];
            for (int supporter = 0; supporter < roster.supporters; supporter++) {
                if (isFree(used, supporter) && roster.canTake(supporter, session)) {
                    best = Math.max(best, 1 + most[session + 1][used | 1 << supporter]);
                }
            }
            return best;
        }

        /** The first supporter with whom the most sessions can still be covered. */
        private int firstTaker(Roster roster, int session, int used) {
            for (int supporter = 0; supporter < roster.supporters; supporter++) {
                if (isFree(used, supporter) && roster.canTake(supporter, session)
                        && 1 + most[session + 1][used | 1 << supporter] == most[session][used]) {
                    return supporter;
                }
            }
            return NONE;
        }

        private static boolean isFree(int used, int supporter) {
            return (used >> supporter & 1) == 0;
        }
    }
}
