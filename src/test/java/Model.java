import java.math.BigInteger;
import java.util.ArrayDeque;
import java.util.ArrayList;
import java.util.Deque;
import java.util.List;

/**
 * The document once more, as slow and plain as it reads: loads by solving the three equations, room by the
 * moments of a trial weight, plans by whole numbers without bounds, assignments by looking at all of them.
 */
final class Model {
    static final class State {
        int[][] cells = {{0, 0, 5000}, {100, 0, 5000}, {0, 100, 5000}};
        List<int[]> objects = new ArrayList<>();
        List<BigInteger> weights = new ArrayList<>(List.of(BigInteger.ONE, BigInteger.ONE));
        List<List<int[]>> tests = new ArrayList<>();
        List<int[]> supporters = new ArrayList<>();
        List<int[]> sessions = new ArrayList<>();

        State copy() {
            State copy = new State();
            copy.cells = new int[][] {cells[0].clone(), cells[1].clone(), cells[2].clone()};
            copy.objects = new ArrayList<>(objects);
            copy.weights = new ArrayList<>(weights);
            for (List<int[]> test : tests) {
                copy.tests.add(new ArrayList<>(test));
            }
            copy.supporters = new ArrayList<>(supporters);
            copy.sessions = new ArrayList<>(sessions);
            return copy;
        }
    }

    private static final BigInteger LIMIT = BigInteger.TEN.pow(15);

    State s = new State();
    final Deque<State> saved = new ArrayDeque<>();

    private void save() {
        saved.addLast(s.copy());
        if (saved.size() > 4) {
            saved.removeFirst();
        }
    }

    private static void bounds(boolean fine) {
        if (!fine) {
            throw new IndexOutOfBoundsException();
        }
    }

    private static void argument(boolean fine) {
        if (!fine) {
            throw new IllegalArgumentException();
        }
    }

    private static void state(boolean fine) {
        if (!fine) {
            throw new IllegalStateException();
        }
    }

    private static boolean within(long value, long low, long high) {
        return low <= value && value <= high;
    }

    private static long determinant(long[][] m) {
        return m[0][0] * (m[1][1] * m[2][2] - m[1][2] * m[2][1])
                - m[0][1] * (m[1][0] * m[2][2] - m[1][2] * m[2][0])
                + m[0][2] * (m[1][0] * m[2][1] - m[1][1] * m[2][0]);
    }

    /** Numerators of the three loads, then their denominator, which is above 0: Cramer's rule. */
    private long[] loads(List<int[]> objects) {
        long[] sums = new long[3];
        for (int[] o : objects) {
            sums[0] += o[2];
            sums[1] += (long) o[2] * o[0];
            sums[2] += (long) o[2] * o[1];
        }
        long whole = determinant(equations(s.cells, -1, sums));
        long[] loads = new long[4];
        for (int i = 0; i < 3; i++) {
            loads[i] = determinant(equations(s.cells, i, sums)) * Long.signum(whole);
        }
        loads[3] = Math.abs(whole);
        return loads;
    }

    private static long[][] equations(int[][] cells, int replaced, long[] sums) {
        long[][] m = new long[3][3];
        for (int i = 0; i < 3; i++) {
            for (int row = 0; row < 3; row++) {
                m[row][i] = i == replaced ? sums[row] : row == 0 ? 1 : cells[i][row - 1];
            }
        }
        return m;
    }

    long setCell(int cell, int x, int y, int capacity) {
        bounds(within(cell, 0, 2));
        argument(within(x, -100, 100) && within(y, -100, 100) && within(capacity, 1, 100000));
        int[][] moved = s.cells.clone();
        moved[cell] = new int[] {x, y, capacity};
        argument(determinant(equations(moved, -1, new long[3])) != 0);
        save();
        int previous = s.cells[cell][2];
        s.cells = moved;
        return previous;
    }

    long place(int x, int y, int weight) {
        argument(within(x, -100, 100) && within(y, -100, 100) && within(weight, 1, 1000));
        state(s.objects.size() < 8);
        save();
        s.objects.add(new int[] {x, y, weight});
        return s.objects.size() - 1;
    }

    long lift(int object) {
        bounds(within(object, 0, s.objects.size() - 1));
        save();
        return s.objects.remove(object)[2];
    }

    private static long part(BigInteger numerator, BigInteger denominator, int part) {
        return (part == 0 ? numerator : denominator).divide(numerator.gcd(denominator)).longValueExact();
    }

    long load(int cell, int part) {
        bounds(within(cell, 0, 2));
        argument(within(part, 0, 1));
        long[] loads = loads(s.objects);
        return part(BigInteger.valueOf(loads[cell]), BigInteger.valueOf(loads[3]), part);
    }

    long reading(int cell, int resolution) {
        bounds(within(cell, 0, 2));
        argument(within(resolution, 1, 100));
        long[] loads = loads(s.objects);
        long multiple = loads[cell] / loads[3] / resolution * resolution + resolution;
        while (multiple * loads[3] > loads[cell]) {
            multiple -= resolution;
        }
        return multiple;
    }

    long isStable() {
        return stable(s.objects) ? 1 : 0;
    }

    private boolean stable(List<int[]> objects) {
        long[] loads = loads(objects);
        return loads[0] >= 0 && loads[1] >= 0 && loads[2] >= 0;
    }

    long overloaded() {
        return overloaded(s.objects);
    }

    private int overloaded(List<int[]> objects) {
        long[] loads = loads(objects);
        int set = 0;
        for (int i = 0; i < 3; i++) {
            set += loads[i] > loads[3] * s.cells[i][2] ? 1 << i : 0;
        }
        return set;
    }

    private boolean fits(int x, int y, int weight) {
        List<int[]> objects = new ArrayList<>(s.objects);
        objects.add(new int[] {x, y, weight});
        return stable(objects) && overloaded(objects) == 0;
    }

    /** The weights that fit are all those up to the greatest; three capacities bound it. */
    long room(int x, int y) {
        argument(within(x, -100, 100) && within(y, -100, 100));
        if (!fits(x, y, 0)) {
            return -1;
        }
        int fitting = 0;
        int failing = 300001;
        while (failing - fitting > 1) {
            int middle = (fitting + failing) / 2;
            if (fits(x, y, middle)) {
                fitting = middle;
            } else {
                failing = middle;
            }
        }
        return fitting;
    }

    private static List<int[]> newChances(int hypotheses) {
        List<int[]> chances = new ArrayList<>();
        for (int i = 0; i < hypotheses; i++) {
            chances.add(new int[] {0, 0, 10});
        }
        return chances;
    }

    long setHypotheses(int count) {
        argument(within(count, 1, 8));
        save();
        int previous = s.weights.size();
        s.weights.clear();
        for (int i = 0; i < count; i++) {
            s.weights.add(BigInteger.ONE);
        }
        s.tests.replaceAll(test -> newChances(count));
        return previous;
    }

    long setWeight(int hypothesis, int weight) {
        bounds(within(hypothesis, 0, s.weights.size() - 1));
        argument(within(weight, 0, 1000000));
        List<BigInteger> weights = new ArrayList<>(s.weights);
        long previous = weights.set(hypothesis, BigInteger.valueOf(weight)).longValueExact();
        state(sum(weights).signum() > 0);
        save();
        s.weights = weights;
        return previous;
    }

    private static BigInteger sum(List<BigInteger> weights) {
        return weights.stream().reduce(BigInteger.ZERO, BigInteger::add);
    }

    private static BigInteger greatest(List<BigInteger> weights) {
        return weights.stream().reduce(BigInteger.ZERO, BigInteger::max);
    }

    long addTest() {
        state(s.tests.size() < 10);
        save();
        s.tests.add(newChances(s.weights.size()));
        return s.tests.size() - 1;
    }

    long setChances(int test, int hypothesis, int chance0, int chance1) {
        bounds(within(test, 0, s.tests.size() - 1) && within(hypothesis, 0, s.weights.size() - 1));
        argument(within(chance0, 0, 10) && within(chance1, 0, 10 - chance0));
        save();
        s.tests.get(test).set(hypothesis, new int[] {chance0, chance1, 10 - chance0 - chance1});
        return 10 - chance0 - chance1;
    }

    private List<BigInteger> multiplied(List<BigInteger> weights, int test, int outcome) {
        List<BigInteger> multiplied = new ArrayList<>();
        for (int i = 0; i < weights.size(); i++) {
            multiplied.add(weights.get(i).multiply(BigInteger.valueOf(s.tests.get(test).get(i)[outcome])));
        }
        return multiplied;
    }

    long observe(int test, int outcome) {
        bounds(within(test, 0, s.tests.size() - 1));
        argument(within(outcome, 0, 2));
        List<BigInteger> weights = multiplied(s.weights, test, outcome);
        state(sum(weights).signum() > 0);
        BigInteger divisor = weights.stream().reduce(BigInteger.ZERO, BigInteger::gcd);
        weights.replaceAll(w -> w.divide(divisor));
        if (greatest(weights).compareTo(LIMIT) > 0) {
            throw new ArithmeticException();
        }
        save();
        s.weights = weights;
        return weights.indexOf(greatest(weights));
    }

    long odds(int hypothesis, int part) {
        bounds(within(hypothesis, 0, s.weights.size() - 1));
        argument(within(part, 0, 1));
        return part(s.weights.get(hypothesis), sum(s.weights), part);
    }

    private BigInteger value(int d, List<BigInteger> weights) {
        if (d == 0) {
            return greatest(weights);
        }
        BigInteger best = BigInteger.ZERO;
        for (int test = 0; test < s.tests.size(); test++) {
            best = best.max(valueWith(d, weights, test));
        }
        return best;
    }

    private BigInteger valueWith(int d, List<BigInteger> weights, int test) {
        BigInteger sum = BigInteger.ZERO;
        for (int outcome = 0; outcome < 3; outcome++) {
            sum = sum.add(value(d - 1, multiplied(weights, test, outcome)));
        }
        return sum;
    }

    long planValue(int tests, int part) {
        argument(within(tests, 0, 3) && within(part, 0, 1));
        state(tests == 0 || !s.tests.isEmpty());
        return part(value(tests, s.weights), BigInteger.TEN.pow(tests).multiply(sum(s.weights)), part);
    }

    long planFirst(int tests) {
        argument(within(tests, 1, 3));
        state(!s.tests.isEmpty());
        BigInteger reached = value(tests, s.weights);
        int first = 0;
        while (!valueWith(tests, s.weights, first).equals(reached)) {
            first++;
        }
        return first;
    }

    long addSupporter(int strength, int hours) {
        argument(within(strength, 1, 100000) && within(hours, 0, 16777215));
        state(s.supporters.size() < 8);
        save();
        s.supporters.add(new int[] {strength, hours});
        return s.supporters.size() - 1;
    }

    long addSession(int load, int hour) {
        argument(within(load, 1, 100000) && within(hour, 0, 23));
        state(s.sessions.size() < 8);
        save();
        s.sessions.add(new int[] {load, hour});
        return s.sessions.size() - 1;
    }

    long clearSessions() {
        save();
        int removed = s.supporters.size() + s.sessions.size();
        s.supporters.clear();
        s.sessions.clear();
        return removed;
    }

    private int[] best;
    private int bestCovered;

    /** All assignments in lexicographic order; the first with the most sessions stays. */
    private int[] assignment() {
        best = new int[0];
        bestCovered = -1;
        look(new int[s.sessions.size()], 0, 0, 0);
        return best;
    }

    private void look(int[] takers, int session, int used, int covered) {
        if (session == takers.length) {
            if (covered > bestCovered) {
                bestCovered = covered;
                best = takers.clone();
            }
            return;
        }
        for (int i = 0; i < s.supporters.size(); i++) {
            int[] supporter = s.supporters.get(i);
            int[] wanted = s.sessions.get(session);
            if ((used & 1 << i) == 0 && supporter[0] >= wanted[0] && (supporter[1] & 1 << wanted[1]) != 0) {
                takers[session] = i;
                look(takers, session + 1, used | 1 << i, covered + 1);
            }
        }
        takers[session] = -1;
        look(takers, session + 1, used, covered);
    }

    long covered() {
        assignment();
        return bestCovered;
    }

    long supporterOf(int session) {
        bounds(within(session, 0, s.sessions.size() - 1));
        return assignment()[session];
    }

    long undo() {
        state(!saved.isEmpty());
        s = saved.removeLast();
        return saved.size();
    }

    long digest() {
        List<Long> values = new ArrayList<>();
        for (int i = 0; i < 3; i++) {
            addAll(values, s.cells[i]);
            values.add(load(i, 0));
            values.add(load(i, 1));
        }
        values.add(isStable());
        values.add(overloaded());
        values.add((long) s.objects.size());
        s.objects.forEach(object -> addAll(values, object));
        values.add((long) s.weights.size());
        s.weights.forEach(weight -> values.add(weight.longValueExact()));
        values.add((long) s.tests.size());
        s.tests.forEach(test -> test.forEach(chances -> addAll(values, chances)));
        values.add((long) s.supporters.size());
        s.supporters.forEach(supporter -> addAll(values, supporter));
        values.add((long) s.sessions.size());
        int[] takers = assignment();
        for (int i = 0; i < takers.length; i++) {
            addAll(values, s.sessions.get(i));
            values.add((long) takers[i]);
        }
        values.add((long) saved.size());
        long h = 2801;
        for (long v : values) {
            h = 31 * h + v;
        }
        return h;
    }

    private static void addAll(List<Long> values, int[] row) {
        for (int v : row) {
            values.add((long) v);
        }
    }
}
