/**
 * Long runs of calls, the same ones each time, whose answers, exceptions and digests are those of the model.
 * Each run leans towards some of the calls, so that all parts of the class come to be full and empty.
 */
public final class ModelRunsTest {
    private static final Check CHECK = new Check();
    private static final int RUNS = 300;
    private static final int CALLS = 256;
    private static final String[] NAMES = {"setCell", "place", "lift", "load", "reading", "isStable", "overloaded",
        "room", "setHypotheses", "setWeight", "addTest", "setChances", "observe", "odds", "planValue", "planFirst",
        "addSupporter", "addSession", "clearSessions", "covered", "supporterOf", "undo"};
    // How often each of the calls comes, by kind of run.
    private static final int[][] SHARES = {
        {4, 6, 5, 2, 4, 1, 1, 8, 1, 2, 1, 3, 3, 1, 1, 1, 2, 2, 1, 1, 1, 3},
        {3, 9, 8, 4, 6, 1, 1, 15, 0, 0, 0, 0, 0, 0, 0, 0, 0, 0, 0, 0, 0, 2},
        {0, 0, 0, 0, 0, 0, 0, 0, 1, 6, 6, 40, 12, 6, 6, 6, 0, 0, 0, 0, 0, 2},
        {0, 0, 0, 0, 0, 0, 0, 0, 0, 1, 0, 2, 60, 9, 3, 3, 0, 0, 0, 0, 0, 1},
        {0, 0, 0, 0, 0, 0, 0, 0, 0, 0, 0, 0, 0, 0, 0, 0, 12, 12, 1, 6, 12, 3}};

    private final TripodScale scale = new TripodScale();
    private final Model model = new Model();
    private final int run;
    private final boolean greatTests;
    private long seed;

    private ModelRunsTest(int run) {
        this.run = run;
        seed = run * 7919L + 17;
        // A full plan takes the model long, so few runs have more than 3 tests at work.
        greatTests = run % 50 == 2;
    }

    public static void main(String[] args) {
        for (int run = 0; run < RUNS; run++) {
            new ModelRunsTest(run).go();
        }
        CHECK.finish();
    }

    private void go() {
        int[] shares = SHARES[run % SHARES.length];
        int total = 0;
        for (int share : shares) {
            total += share;
        }
        if (run % SHARES.length == 3) {
            addTellingTests();
        }
        for (int i = 0; i < CALLS; i++) {
            int drawn = next(total);
            int kind = 0;
            while (drawn >= shares[kind]) {
                drawn -= shares[kind];
                kind++;
            }
            call(i, kind, arguments(kind));
        }
    }

    /** Tests without a chance of 0 let the weights grow to their limit. */
    private void addTellingTests() {
        int hypotheses = 2 + next(3);
        call(-1, 8, new int[] {hypotheses});
        for (int test = 0; test < 3; test++) {
            call(-1, 10, new int[0]);
            for (int i = 0; i < hypotheses; i++) {
                int chance0 = 1 + next(8);
                call(-1, 11, new int[] {test, i, chance0, 1 + next(9 - chance0)});
            }
        }
    }

    private int next(int bound) {
        seed = seed * 6364136223846793005L + 1442695040888963407L;
        return (int) Long.remainderUnsigned(seed >>> 33, bound);
    }

    /** Mostly within the bounds, now and then at a bound or just beyond it. */
    private int near(int low, int high) {
        switch (next(24)) {
            case 0: return low;
            case 1: return high;
            case 2: return next(3) == 0 ? low - 1 : low;
            case 3: return next(3) == 0 ? high + 1 : high;
            default: return low + next(high - low + 1);
        }
    }

    private int coordinate() {
        return next(4) == 0 ? near(-100, 100) : near(-2, 3) * 20;
    }

    /** Mostly between the cells as they stand at first. */
    private int inside() {
        return next(4) == 0 ? coordinate() : near(0, 50);
    }

    private int[] cell() {
        int cell = near(0, 2);
        boolean nearCorner = next(3) != 0;
        int x = nearCorner ? near(-10, 10) + (cell == 1 ? 80 : -10) : coordinate();
        int y = nearCorner ? near(-10, 10) + (cell == 2 ? 80 : -10) : coordinate();
        return new int[] {cell, x, y, next(3) == 0 ? near(1, 1500) : near(1, 100000)};
    }

    private int[] arguments(int kind) {
        switch (kind) {
            case 0: return cell();
            case 1: return new int[] {inside(), inside(), near(1, next(2) == 0 ? 1000 : 40)};
            case 2: return new int[] {near(0, 7)};
            case 3: return new int[] {near(0, 2), near(0, 1)};
            case 4: return new int[] {near(0, 2), near(1, 100)};
            case 7: return new int[] {inside(), inside()};
            case 8: return new int[] {near(1, 8)};
            case 9: return new int[] {near(0, 3), next(2) == 0 ? near(0, 1000000) : near(0, 12)};
            case 11: return chances();
            case 12: return new int[] {near(0, 2), near(0, 2)};
            case 13: return new int[] {near(0, 3), near(0, 1)};
            case 14: return new int[] {near(0, 3), near(0, 1)};
            case 15: return new int[] {near(1, 3)};
            case 16: return new int[] {next(3) == 0 ? near(1, 100000) : near(1, 9), next(2) == 0 ? near(0, 16777215) : near(0, 15)};
            case 17: return new int[] {next(3) == 0 ? near(1, 100000) : near(1, 9), next(3) == 0 ? near(0, 23) : near(0, 3)};
            case 20: return new int[] {near(0, 7)};
            default: return new int[0];
        }
    }

    private int[] chances() {
        int chance0 = near(0, 10);
        int most = Math.max(0, 10 - chance0);
        return new int[] {near(0, greatTests ? 9 : 2), near(0, 7), chance0, near(0, most)};
    }

    private boolean isSlow(int kind, int[] a) {
        boolean deep = (kind == 14 || kind == 15) && a[0] == 3;
        return deep && model.s.tests.size() > 4 && (!greatTests || next(6) != 0)
                || kind == 10 && model.s.tests.size() >= 4 && !greatTests && next(20) != 0;
    }

    private void call(int number, int kind, int[] a) {
        if (isSlow(kind, a)) {
            return;
        }
        StringBuilder text = new StringBuilder("run " + run + ", call " + number + ", " + NAMES[kind] + "(");
        for (int v : a) {
            text.append(' ').append(v);
        }
        String what = text.append(" )").toString();
        long[] got = answer(() -> ofScale(kind, a));
        long[] want = answer(() -> ofModel(kind, a));
        CHECK.due(what + " throws (1 bounds, 2 argument, 3 state, 4 arithmetic)", got[0], want[0]);
        CHECK.due(what, got[1], want[1]);
        CHECK.due(what + " then digest", scale.digest(), model.digest());
    }

    private static long[] answer(Check.Call call) {
        try {
            return new long[] {0, call.answer()};
        } catch (IndexOutOfBoundsException e) {
            return new long[] {e.getClass() == IndexOutOfBoundsException.class ? 1 : 5, 0};
        } catch (IllegalArgumentException e) {
            return new long[] {2, 0};
        } catch (IllegalStateException e) {
            return new long[] {3, 0};
        } catch (ArithmeticException e) {
            return new long[] {4, 0};
        }
    }

    private long ofScale(int kind, int[] a) {
        switch (kind) {
            case 0: return scale.setCell(a[0], a[1], a[2], a[3]);
            case 1: return scale.place(a[0], a[1], a[2]);
            case 2: return scale.lift(a[0]);
            case 3: return scale.load(a[0], a[1]);
            case 4: return scale.reading(a[0], a[1]);
            case 5: return scale.isStable() ? 1 : 0;
            case 6: return scale.overloaded();
            case 7: return scale.room(a[0], a[1]);
            case 8: return scale.setHypotheses(a[0]);
            case 9: return scale.setWeight(a[0], a[1]);
            case 10: return scale.addTest();
            case 11: return scale.setChances(a[0], a[1], a[2], a[3]);
            case 12: return scale.observe(a[0], a[1]);
            case 13: return scale.odds(a[0], a[1]);
            case 14: return scale.planValue(a[0], a[1]);
            case 15: return scale.planFirst(a[0]);
            case 16: return scale.addSupporter(a[0], a[1]);
            case 17: return scale.addSession(a[0], a[1]);
            case 18: return scale.clearSessions();
            case 19: return scale.covered();
            case 20: return scale.supporterOf(a[0]);
            default: return scale.undo();
        }
    }

    private long ofModel(int kind, int[] a) {
        switch (kind) {
            case 0: return model.setCell(a[0], a[1], a[2], a[3]);
            case 1: return model.place(a[0], a[1], a[2]);
            case 2: return model.lift(a[0]);
            case 3: return model.load(a[0], a[1]);
            case 4: return model.reading(a[0], a[1]);
            case 5: return model.isStable();
            case 6: return model.overloaded();
            case 7: return model.room(a[0], a[1]);
            case 8: return model.setHypotheses(a[0]);
            case 9: return model.setWeight(a[0], a[1]);
            case 10: return model.addTest();
            case 11: return model.setChances(a[0], a[1], a[2], a[3]);
            case 12: return model.observe(a[0], a[1]);
            case 13: return model.odds(a[0], a[1]);
            case 14: return model.planValue(a[0], a[1]);
            case 15: return model.planFirst(a[0]);
            case 16: return model.addSupporter(a[0], a[1]);
            case 17: return model.addSession(a[0], a[1]);
            case 18: return model.clearSessions();
            case 19: return model.covered();
            case 20: return model.supporterOf(a[0]);
            default: return model.undo();
        }
    }
}
