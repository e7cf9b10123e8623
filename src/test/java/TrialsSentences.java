/** Promises 18 and 19, and what the description says of trials. */
final class TrialsSentences {
    private static final long TEN_15 = 1000000000000000L;

    private final Check check;
    private final Probe probe;
    private final Sentences sentences;
    private final TripodScale scale = new TripodScale();

    TrialsSentences(Check check, Probe probe, Sentences sentences) {
        this.check = check;
        this.probe = probe;
        this.sentences = sentences;
    }

    void ask() {
        description();
        promise18();
        promise19();
    }

    private void tailDue(int trials, int successes, int chance, long tail) {
        check.due("tail(" + trials + ", " + successes + ", " + chance + ")", scale.tail(trials, successes, chance), tail);
    }

    private void planDue(int chance0, int chance1, int limit, int plan) {
        check.due("fewestTrials(" + chance0 + ", " + chance1 + ", " + limit + ")", scale.fewestTrials(chance0, chance1, limit), plan);
    }

    private static long power(int base, int exponent) {
        return exponent == 0 ? 1 : base * power(base, exponent - 1);
    }

    /** By the first trial: it succeeds or fails, and the others succeed often enough. */
    private static long countedTail(int trials, int successes, int chance) {
        if (successes <= 0 || trials == 0) {
            return successes <= 0 ? power(10, trials) : 0;
        }
        return chance * countedTail(trials - 1, successes - 1, chance) + (10 - chance) * countedTail(trials - 1, successes, chance);
    }

    private boolean isPlan(int trials, int successes, int chance0, int chance1, int limit) {
        long whole = power(10, trials);
        long alarms = countedTail(trials, successes, chance0);
        long misses = whole - countedTail(trials, successes, chance1);
        return limit * alarms <= whole && limit * misses <= whole;
    }

    private void description() {
        sentences.section("Description");
        sentences.says("In n trials, each of which succeeds with a chance of p tenths, the tail for c is 10^n times the"
                + " probability that at least c trials succeed; it is a whole number.", () -> {
            for (int n = 0; n <= 15; n++) {
                for (int p = 0; p <= 10; p++) {
                    tailDue(n, 0, p, power(10, n));
                    tailDue(n, n, p, power(p, n));
                    tailDue(n, n + 1, p, 0);
                    if (n > 0) {
                        tailDue(n, 1, p, power(10, n) - power(10 - p, n));
                    }
                }
            }
        });
        sentences.says("A trial plan for two chances p0 and p1 and a limit m is a pair (n, c) such that m * tail(n, c, p0) is at"
                + " most 10^n (few false alarms), and m * (10^n - tail(n, c, p1)) is at most 10^n (few misses).", () -> {
            // One trial: 10 * 1 is just 10^1, and 11 * 1 is more.
            planDue(1, 10, 10, 101);
            planDue(1, 10, 11, 202);
            planDue(0, 9, 10, 101);
            planDue(0, 9, 11, 201);
            // Two trials that both succeed: 100 * 1 is just 10^2.
            planDue(1, 10, 100, 202);
            planDue(1, 10, 101, 303);
            planDue(0, 9, 100, 201);
            planDue(0, 9, 101, 301);
            planDue(1, 10, 1000, 303);
            planDue(0, 9, 1000, 301);
        });
    }

    private void promise18() {
        sentences.section("Promise 18: tail");
        sentences.says("Returns a tail.", () -> {
            for (int c = 0; c <= 16; c++) {
                for (int p = 0; p <= 10; p++) {
                    tailDue(15, c, p, countedTail(15, c, p));
                }
            }
        });
        sentences.says("`trials`: number of trials, 0 to 15", () -> {
            probe.range(0, 15, TripodScale::new, (t, trials) -> t.tail(trials, 1, 5));
            tailDue(0, 0, 5, 1);
            tailDue(0, 1, 5, 0);
            tailDue(15, 15, 10, TEN_15);
        });
        sentences.says("`successes`: 0 to 16", () -> {
            probe.range(0, 16, TripodScale::new, (t, successes) -> t.tail(15, successes, 5));
            probe.range(0, 16, TripodScale::new, (t, successes) -> t.tail(0, successes, 5));
            tailDue(15, 0, 0, TEN_15);
            tailDue(15, 16, 10, 0);
            tailDue(0, 16, 10, 0);
        });
        sentences.says("`chance`: chance of success in tenths, 0 to 10", () -> {
            probe.range(0, 10, TripodScale::new, (t, chance) -> t.tail(15, 8, chance));
            tailDue(15, 1, 0, 0);
            tailDue(15, 1, 10, TEN_15);
        });
        sentences.says("Returns the tail.", () -> {
            tailDue(15, 0, 10, TEN_15);
            tailDue(15, 15, 1, 1);
            tailDue(15, 15, 9, 205891132094649L);
        });
        sentences.says("Throws `IllegalArgumentException` if an argument is out of range", () -> {
            probe.refuses("tail(-1, 0, 5)", Probe.ARGUMENT, Scales::withAll, t -> t.tail(-1, 0, 5));
            probe.refuses("tail(16, 0, 5)", Probe.ARGUMENT, Scales::withAll, t -> t.tail(16, 0, 5));
            probe.refuses("tail(5, -1, 5)", Probe.ARGUMENT, Scales::withAll, t -> t.tail(5, -1, 5));
            probe.refuses("tail(5, 17, 5)", Probe.ARGUMENT, Scales::withAll, t -> t.tail(5, 17, 5));
            probe.refuses("tail(5, 5, -1)", Probe.ARGUMENT, Scales::withAll, t -> t.tail(5, 5, -1));
            probe.refuses("tail(5, 5, 11)", Probe.ARGUMENT, Scales::withAll, t -> t.tail(5, 5, 11));
        });
    }

    private void promise19() {
        sentences.section("Promise 19: fewestTrials");
        sentences.says("Finds the trial plan with the fewest trials, of several the one with the smallest number of successes.", () -> {
            // Without trials both 0 and 1 successes are plans of the limit 1.
            check.due("c = 0 is a plan", isPlan(0, 0, 5, 5, 1), true);
            check.due("c = 1 is a plan", isPlan(0, 1, 5, 5, 1), true);
            planDue(5, 5, 1, 0);
            // Three trials have plans too, with 2 successes, but one is enough.
            check.due("three trials are a plan", isPlan(3, 2, 2, 8, 4), true);
            planDue(2, 8, 4, 101);
            for (int p0 = 0; p0 <= 10; p0++) {
                for (int p1 = 0; p1 <= 10; p1++) {
                    for (int m = 1; m <= 1000; m *= 10) {
                        planDue(p0, p1, m, firstPlan(p0, p1, m));
                    }
                }
            }
        });
        sentences.says("`chance0`: chance p0 in tenths, 0 to 10", () -> {
            probe.range(0, 10, TripodScale::new, (t, chance0) -> t.fewestTrials(chance0, 10, 10));
            planDue(0, 10, 1000, 101);
            planDue(10, 10, 2, -1);
        });
        sentences.says("`chance1`: chance p1 in tenths, 0 to 10", () -> {
            probe.range(0, 10, TripodScale::new, (t, chance1) -> t.fewestTrials(0, chance1, 10));
            planDue(0, 0, 2, -1);
            planDue(1, 10, 2, 101);
        });
        sentences.says("`limit`: the limit m, 1 to 1000", () -> {
            probe.range(1, 1000, TripodScale::new, (t, limit) -> t.fewestTrials(0, 10, limit));
            planDue(10, 0, 1, 0);
            planDue(0, 10, 2, 101);
            planDue(4, 4, 1000, -1);
        });
        sentences.says("Returns 100 * trials + successes (0 to 15 trials, and 0 to trials + 1 successes); NONE if there is no such"
                + " plan.", this::endsOfPlans);
        sentences.says("Throws `IllegalArgumentException` if an argument is out of range", () -> {
            probe.refuses("chance0 -1", Probe.ARGUMENT, Scales::withAll, t -> t.fewestTrials(-1, 5, 5));
            probe.refuses("chance0 11", Probe.ARGUMENT, Scales::withAll, t -> t.fewestTrials(11, 5, 5));
            probe.refuses("chance1 -1", Probe.ARGUMENT, Scales::withAll, t -> t.fewestTrials(5, -1, 5));
            probe.refuses("chance1 11", Probe.ARGUMENT, Scales::withAll, t -> t.fewestTrials(5, 11, 5));
            probe.refuses("limit 0", Probe.ARGUMENT, Scales::withAll, t -> t.fewestTrials(5, 5, 0));
            probe.refuses("limit 1001", Probe.ARGUMENT, Scales::withAll, t -> t.fewestTrials(5, 5, 1001));
            probe.refuses("limit -1", Probe.ARGUMENT, Scales::withAll, t -> t.fewestTrials(5, 5, -1));
        });
    }

    /** The last limits that 15 trials reach, and the next ones, which they do not. */
    private void endsOfPlans() {
        planDue(0, 0, 1, 0);
        planDue(10, 10, 1, 0);
        planDue(0, 2, 28, 1501);
        planDue(0, 2, 29, -1);
        planDue(8, 10, 28, 1515);
        planDue(8, 10, 29, -1);
        planDue(3, 6, 7, 1507);
        planDue(3, 6, 8, -1);
        planDue(2, 9, 1000, 1509);
        planDue(5, 5, 2, 101);
        planDue(5, 5, 3, -1);
        planDue(9, 1, 2, -1);
    }

    private int firstPlan(int p0, int p1, int m) {
        for (int n = 0; n <= 15; n++) {
            for (int c = 0; c <= n + 1; c++) {
                if (isPlan(n, c, p0, p1, m)) {
                    return 100 * n + c;
                }
            }
        }
        return -1;
    }
}
