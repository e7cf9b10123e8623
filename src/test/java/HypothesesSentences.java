/** Promises 10 to 17, and what the description says of hypotheses, tests, values and fractions. */
final class HypothesesSentences {
    private static final int[] SURE_0 = {10, 0};
    private static final int[] SURE_1 = {0, 10};
    private static final int[] SURE_2 = {0, 0};
    // 35557 times these is 10^15 + 8950040, the smallest weight above 10^15 that can come to be.
    private static final int[] FACTORS = {9, 9, 9, 9, 9, 9, 9, 3, 8, 7, 7, 5};

    private final Check check;
    private final Probe probe;
    private final Sentences sentences;

    HypothesesSentences(Check check, Probe probe, Sentences sentences) {
        this.check = check;
        this.probe = probe;
        this.sentences = sentences;
    }

    void ask() {
        sentences.section("Description");
        hypotheses();
        tests();
        values();
        fractions();
        promise10();
        promise11();
        promise12();
        promise13();
        promise14();
        promise15();
        promise16();
        promise17();
    }

    private void oddsDue(TripodScale t, int hypothesis, long numerator, long denominator) {
        check.fraction("odds(" + hypothesis + ")", t.odds(hypothesis, 0), t.odds(hypothesis, 1), numerator, denominator);
    }

    private void valueDue(TripodScale t, int tests, long numerator, long denominator) {
        check.fraction("planValue(" + tests + ")", t.planValue(tests, 0), t.planValue(tests, 1), numerator, denominator);
    }

    /** Asks all weights by setting each anew, and takes that back. */
    private void weightsDue(TripodScale t, long... weights) {
        for (int i = 0; i < weights.length; i++) {
            check.due("weight " + i, t.setWeight(i, 1), weights[i]);
            t.undo();
        }
        check.outOfBounds("weight " + weights.length, t, () -> t.setWeight(weights.length, 1));
    }

    /** Weights 1 and 1 become 10 and the chance of the outcome for hypothesis 1. */
    private void chanceDue(TripodScale t, int outcome, int chance) {
        t.setChances(0, 0, outcome == 0 ? 10 : 0, outcome == 1 ? 10 : 0);
        t.observe(0, outcome);
        check.due("the chance of outcome " + outcome, t.odds(1, 0) * (10 + chance), t.odds(1, 1) * chance);
        t.undo();
        t.undo();
    }

    /** Weights below 10^15, of which the first would be 10^15 + 8950040 after outcome 0. */
    private static TripodScale belowTheSmallestExcess() {
        TripodScale t = Scales.withChances(SURE_0, new int[] {1, 9});
        t.setWeight(0, 35557);
        for (int i = 0; i < FACTORS.length; i++) {
            t.setChances(0, 0, FACTORS[i], 0);
            if (i < FACTORS.length - 1) {
                t.observe(0, 0);
            }
        }
        return t;
    }

    /** The weights 10^15 and 1, and the chances given for outcome 0 of test 0. */
    private static TripodScale greatestWith(int chance0, int chance1) {
        TripodScale t = Scales.withGreatestWeight();
        t.setChances(0, 0, chance0, 0);
        t.setChances(0, 1, chance1, 0);
        return t;
    }

    /** The weights 10^14 and 1, and the chances given for outcome 0 of test 0. */
    private static TripodScale tenthOfGreatestWith(int chance0, int chance1) {
        TripodScale t = Scales.withChances(SURE_0, new int[] {1, 0});
        for (int i = 0; i < 14; i++) {
            t.observe(0, 0);
        }
        t.setChances(0, 0, chance0, 0);
        t.setChances(0, 1, chance1, 0);
        return t;
    }

    /** Seven weights of 10^15 and one of 1, and two tests that tell all eight hypotheses apart. */
    private static TripodScale eightGreatWeights() {
        TripodScale t = Scales.withHypotheses(8);
        t.addTest();
        for (int i = 0; i < 8; i++) {
            t.setChances(0, i, i == 7 ? 1 : 10, 0);
        }
        for (int i = 0; i < 15; i++) {
            t.observe(0, 0);
        }
        Scales.addTest(t, SURE_0, SURE_0, SURE_0, SURE_1, SURE_1, SURE_1, SURE_2, SURE_2);
        Scales.addTest(t, SURE_0, SURE_1, SURE_2, SURE_0, SURE_1, SURE_2, SURE_0, SURE_1);
        return t;
    }

    /** Test 2 tells most alone, but tests 0 and 1 together tell all. */
    private static TripodScale pairOfTests() {
        TripodScale t = Scales.withWeights(3, 3, 3, 3);
        Scales.addTest(t, SURE_0, SURE_0, SURE_1, SURE_1);
        Scales.addTest(t, SURE_0, SURE_1, SURE_0, SURE_1);
        Scales.addTest(t, SURE_0, SURE_1, SURE_2, SURE_2);
        t.setChances(2, 3, 1, 0);
        return t;
    }

    private void hypotheses() {
        sentences.says("There are H hypotheses, numbered from 0 (H is 1 to 8, initially 2), each with a weight, a whole number"
                + " from 0 to 10^15, initially 1; not all weights are 0.", () -> {
            check.due("H at first", new TripodScale().setHypotheses(1), 2);
            weightsDue(new TripodScale(), 1, 1);
            weightsDue(Scales.withHypotheses(1), 1);
            weightsDue(Scales.withHypotheses(8), 1, 1, 1, 1, 1, 1, 1, 1);
            probe.refuses("H is 0", Probe.ARGUMENT, TripodScale::new, t -> t.setHypotheses(0));
            probe.refuses("H is 9", Probe.ARGUMENT, TripodScale::new, t -> t.setHypotheses(9));
            weightsDue(Scales.withWeights(5, 0), 5, 0);
            weightsDue(Scales.withGreatestWeight(), Scales.GREATEST, 1);
            probe.refuses("10^16", Probe.ARITHMETIC, () -> greatestWith(10, 1), t -> t.observe(0, 0));
            probe.refuses("no weight is left", Probe.STATE, () -> Scales.withWeights(0, 5), t -> t.setWeight(1, 0));
        });
        sentences.says("The odds of a hypothesis are its weight divided by the sum of all weights.", () -> {
            oddsDue(Scales.withHypotheses(1), 0, 1, 1);
            oddsDue(Scales.withWeights(0, 5, 0), 0, 0, 1);
            oddsDue(Scales.withWeights(0, 5, 0), 1, 1, 1);
            oddsDue(Scales.withWeights(1, 1000000, 999999), 1, 1, 2);
            oddsDue(Scales.withWeights(1, 1, 1, 1, 1, 1, 1, 2), 7, 2, 9);
            oddsDue(Scales.withGreatestWeight(), 0, Scales.GREATEST, Scales.GREATEST + 1);
            oddsDue(eightGreatWeights(), 7, 1, 7 * Scales.GREATEST + 1);
        });
    }

    private void tests() {
        sentences.says("There are at most 10 tests, numbered from 0.", () -> {
            TripodScale t = new TripodScale();
            for (int i = 0; i < 10; i++) {
                check.due("addTest", t.addTest(), i);
            }
            check.due("the last test is there", t.observe(9, 2), 0);
            probe.refuses("an eleventh", Probe.STATE, () -> Scales.withTests(10), u -> u.addTest());
            probe.refuses("test 10", Probe.BOUNDS, () -> Scales.withTests(10), u -> u.observe(10, 2));
        });
        sentences.says("A test has the outcomes 0, 1 and 2.", () -> {
            TripodScale t = Scales.withChances(new int[] {5, 3}, new int[] {1, 1}, new int[] {2, 0});
            check.due("outcome 0", t.observe(0, 0), 0);
            check.due("outcome 1", t.observe(0, 1), 0);
            weightsDue(t, 15, 1, 0);
            check.due("outcome 2", t.observe(0, 2), 0);
            weightsDue(t, 15, 4, 0);
            probe.refuses("outcome 3", Probe.ARGUMENT, () -> Scales.withTests(1), u -> u.observe(0, 3));
            probe.refuses("outcome -1", Probe.ARGUMENT, () -> Scales.withTests(1), u -> u.observe(0, -1));
        });
        sentences.says("For each test and hypothesis there are chances for the outcomes, whole numbers of tenths from 0 to 10,"
                + " with the sum 10; initially they are 0, 0 and 10.", this::chances);
        sentences.says("Observing an outcome of a test multiplies the weight of each hypothesis by the chance of the outcome;"
                + " afterwards all weights are divided by their greatest common divisor.", () -> {
            TripodScale t = Scales.withChances(new int[] {6, 0}, new int[] {9, 0}, new int[] {0, 0}, new int[] {3, 7});
            t.observe(0, 0);
            weightsDue(t, 2, 3, 0, 1);
            t.observe(0, 0);
            weightsDue(t, 4, 9, 0, 1);
            TripodScale alone = Scales.withWeights(1000000);
            alone.addTest();
            alone.observe(0, 2);
            weightsDue(alone, 1);
            TripodScale beside0 = Scales.withWeights(0, 600, 400);
            beside0.addTest();
            beside0.observe(0, 2);
            weightsDue(beside0, 0, 3, 2);
            TripodScale divided = greatestWith(10, 10);
            divided.observe(0, 0);
            weightsDue(divided, Scales.GREATEST, 1);
        });
    }

    private void chances() {
        for (int chance0 = 0; chance0 <= 10; chance0++) {
            for (int chance1 = 0; chance1 <= 10; chance1++) {
                int first = chance0;
                int second = chance1;
                if (first + second > 10) {
                    probe.refuses("a sum above 10", Probe.ARGUMENT, () -> Scales.withTests(1), t -> t.setChances(0, 1, first, second));
                } else {
                    TripodScale t = Scales.withTests(1);
                    t.setChances(0, 1, first, second);
                    chanceDue(t, 0, first);
                    chanceDue(t, 1, second);
                    chanceDue(t, 2, 10 - first - second);
                }
            }
        }
        for (int test = 0; test < 10; test++) {
            int fixed = test;
            probe.refuses("the first chance is 0", Probe.STATE, () -> Scales.withTests(10), t -> t.observe(fixed, 0));
            probe.refuses("the second chance is 0", Probe.STATE, () -> Scales.withTests(10), t -> t.observe(fixed, 1));
        }
        chanceDue(Scales.withTests(1), 2, 10);
    }

    private void values() {
        sentences.says("Let F(0, w) be the greatest of the weights w.", () -> {
            valueDue(Scales.withWeights(3, 7, 7), 0, 7, 17);
            valueDue(Scales.withWeights(7, 3), 0, 7, 10);
            valueDue(Scales.withWeights(0, 0, 9), 0, 1, 1);
            valueDue(Scales.withHypotheses(1), 0, 1, 1);
            valueDue(Scales.withHypotheses(8), 0, 1, 8);
            valueDue(eightGreatWeights(), 0, Scales.GREATEST, 7 * Scales.GREATEST + 1);
        });
        sentences.says("For d from 1 on, let F(d, w) be the greatest, over all tests, of the sum, over the three outcomes, of"
                + " F(d - 1, w'), where w' are the weights w, each multiplied by the chance of the outcome (without dividing).",
                this::valuesOfPlans);
        sentences.says("The value of a plan with d tests is F(d, w) / (10^d * (the sum of w)), with the present weights w.", () -> {
            TripodScale t = Scales.withChances(new int[] {7, 2}, new int[] {1, 4});
            valueDue(t, 0, 1, 2);
            valueDue(t, 1, 4, 5);
            t.observe(0, 0);
            valueDue(t, 0, 7, 8);
            valueDue(t, 1, 7, 8);
            t.setWeight(0, 0);
            valueDue(t, 3, 1, 1);
            t.setWeight(0, 1000000);
            valueDue(t, 0, 1000000, 1000001);
        });
        sentences.says("(It is the probability that the most probable hypothesis is the right one after d well chosen tests.)", () -> {
            for (int d = 0; d <= 3; d++) {
                valueDue(Scales.withChances(new int[] {3, 4}, new int[] {3, 4}, new int[] {3, 4}), d, 1, 3);
                valueDue(Scales.withChances(SURE_0, SURE_1, SURE_2), d, 1, d == 0 ? 3 : 1);
            }
        });
        sentences.says("The first test of the plan is the test, the lowest number of several, with which F(d, w) is reached.", () -> {
            check.due("the best one alone", pairOfTests().planFirst(1), 2);
            check.due("the lower one of the pair", pairOfTests().planFirst(2), 0);
            for (int d = 1; d <= 3; d++) {
                check.due("of ten equal ones", Scales.withTests(10).planFirst(d), 0);
                check.due("where all reach it", withLaterEqual(0).planFirst(d), 0);
                check.due("the lower of two", withLaterEqual(3).planFirst(d), d == 1 ? 3 : 0);
            }
        });
    }

    /** Tests that tell nothing, and from that number on some that tell all. */
    private static TripodScale withLaterEqual(int from) {
        TripodScale t = Scales.withTests(10);
        for (int test = from; test < 10; test++) {
            t.setChances(test, 1, 10, 0);
        }
        return t;
    }

    private void valuesOfPlans() {
        TripodScale two = Scales.withChances(new int[] {7, 2}, new int[] {1, 4});
        Scales.addTest(two, new int[] {5, 5}, new int[] {5, 0});
        valueDue(two, 1, 4, 5);
        valueDue(two, 2, 9, 10);
        valueDue(two, 3, 19, 20);
        valueDue(pairOfTests(), 1, 3, 4);
        valueDue(pairOfTests(), 2, 1, 1);
        for (int best = 0; best < 10; best++) {
            TripodScale t = Scales.withTests(10);
            t.setChances(best, 0, 6, 0);
            valueDue(t, 1, 4, 5);
            valueDue(t, 2, 23, 25);
            valueDue(t, 3, 121, 125);
        }
        // Three outcomes tell three hypotheses apart, and nine by two tests.
        valueDue(Scales.withChances(SURE_0, SURE_1, SURE_2), 1, 1, 1);
        valueDue(eightGreatWeights(), 1, 3 * Scales.GREATEST, 7 * Scales.GREATEST + 1);
        valueDue(eightGreatWeights(), 2, 1, 1);
        valueDue(eightGreatWeights(), 3, 1, 1);
        valueDue(Scales.withTests(1), 3, 1, 2);
    }

    private void fractions() {
        sentences.says("Fractions are told in lowest terms with a denominator above 0; the fraction 0 is 0 / 1.", () -> {
            TripodScale t = Scales.full();
            for (int i = 0; i < 8; i++) {
                lowestTerms("odds", t.odds(i, 0), t.odds(i, 1));
            }
            for (int d = 0; d <= 3; d++) {
                lowestTerms("planValue", t.planValue(d, 0), t.planValue(d, 1));
                lowestTerms("planValue", eightGreatWeights().planValue(d, 0), eightGreatWeights().planValue(d, 1));
            }
            for (int cell = 0; cell < 3; cell++) {
                lowestTerms("load", t.load(cell, 0), t.load(cell, 1));
                lowestTerms("load, cells the other way round", turned().load(cell, 0), turned().load(cell, 1));
            }
            check.fraction("load of -1/2", turned().load(1, 0), turned().load(1, 1), -1, 2);
            check.fraction("load of 0", turned().load(2, 0), turned().load(2, 1), 0, 1);
            check.fraction("load of 0", new TripodScale().load(0, 0), new TripodScale().load(0, 1), 0, 1);
            oddsDue(Scales.withWeights(0, 6), 0, 0, 1);
            oddsDue(Scales.withWeights(0, 6), 1, 1, 1);
            oddsDue(Scales.withWeights(4, 6), 1, 3, 5);
            valueDue(Scales.withWeights(4, 6), 0, 3, 5);
        });
        sentences.says("The part 0 of a fraction is the numerator, the part 1 is the denominator.", () -> {
            TripodScale t = Scales.withWeights(1, 2, 4);
            check.due("numerator of the odds", t.odds(2, 0), 4);
            check.due("denominator of the odds", t.odds(2, 1), 7);
            check.due("numerator of the value", t.planValue(0, 0), 4);
            check.due("denominator of the value", t.planValue(0, 1), 7);
            t.place(20, 30, 7);
            check.due("numerator of the load", t.load(2, 0), 21);
            check.due("denominator of the load", t.load(2, 1), 10);
        });
    }

    private void lowestTerms(String what, long numerator, long denominator) {
        check.due(what + " has a denominator above 0", denominator > 0, true);
        long larger = Math.abs(numerator);
        long smaller = denominator;
        while (smaller != 0) {
            long rest = larger % smaller;
            larger = smaller;
            smaller = rest;
        }
        check.due(what + ": the greatest common divisor of its parts", larger, 1);
    }

    private static TripodScale turned() {
        TripodScale t = new TripodScale();
        t.setCell(1, 1, 100, 5000);
        t.setCell(2, 100, 0, 5000);
        t.setCell(1, 0, 100, 5000);
        t.place(50, -50, 1);
        t.place(-50, 0, 1);
        return t;
    }

    private void promise10() {
        sentences.section("Promise 10: setHypotheses");
        sentences.says("Sets the number of hypotheses.", () -> {
            for (int count = 1; count <= 8; count++) {
                int fixed = count;
                probe.numbers(count, () -> Scales.withHypotheses(fixed), (t, hypothesis) -> t.odds(hypothesis, 0));
            }
        });
        sentences.says("All weights become 1, and all chances of all tests become 0, 0 and 10.", () -> {
            for (int count = 1; count <= 8; count += 7) {
                TripodScale t = Scales.full();
                t.setWeight(0, 0);
                t.setWeight(1, 1000000);
                t.setHypotheses(count);
                for (int test = 0; test < 10; test++) {
                    int fixed = test;
                    check.badState("outcome 0", t, () -> t.observe(fixed, 0));
                    check.badState("outcome 1", t, () -> t.observe(fixed, 1));
                    check.due("outcome 2 is sure", t.observe(test, 2), 0);
                }
                for (int i = 0; i < count; i++) {
                    check.due("weight", t.setWeight(i, 1), 1);
                }
            }
        });
        sentences.says("Undoable.", () -> {
            probe.savesChange(TripodScale::new, t -> t.setHypotheses(1));
            probe.savesChange(Scales::withAll, t -> t.setHypotheses(8));
            probe.savesChange(Scales::full, t -> t.setHypotheses(8));
            probe.saves(TripodScale::new, t -> t.setHypotheses(2));
        });
        sentences.says("`count`: 1 to 8", () -> {
            probe.range(1, 8, TripodScale::new, (t, count) -> t.setHypotheses(count));
            probe.range(1, 8, Scales::full, (t, count) -> t.setHypotheses(count));
        });
        sentences.says("Returns the previous number.", () -> {
            TripodScale t = new TripodScale();
            check.due("at first", t.setHypotheses(8), 2);
            check.due("the greatest", t.setHypotheses(1), 8);
            check.due("the smallest", t.setHypotheses(1), 1);
            t.undo();
            t.undo();
            check.due("after undo", t.setHypotheses(3), 8);
        });
        sentences.says("Throws `IllegalArgumentException` if count is out of range", () -> {
            probe.refuses("setHypotheses(0)", Probe.ARGUMENT, Scales::withAll, t -> t.setHypotheses(0));
            probe.refuses("setHypotheses(9)", Probe.ARGUMENT, Scales::full, t -> t.setHypotheses(9));
            probe.refuses("setHypotheses(-1)", Probe.ARGUMENT, Scales::withAll, t -> t.setHypotheses(-1));
        });
    }

    private void promise11() {
        sentences.section("Promise 11: setWeight");
        sentences.says("Sets the weight of a hypothesis.", () -> {
            TripodScale t = Scales.withHypotheses(8);
            t.setWeight(7, 1000000);
            t.setWeight(0, 0);
            weightsDue(t, 0, 1, 1, 1, 1, 1, 1, 1000000);
            // Only observing divides.
            weightsDue(Scales.withWeights(400, 600), 400, 600);
        });
        sentences.says("Undoable.", () -> {
            probe.savesChange(TripodScale::new, t -> t.setWeight(0, 0));
            probe.savesChange(Scales::withGreatestWeight, t -> t.setWeight(0, 1));
            probe.savesChange(Scales::full, t -> t.setWeight(7, 1000000));
            probe.saves(TripodScale::new, t -> t.setWeight(0, 1));
        });
        sentences.says("`hypothesis`: number of a hypothesis", () -> {
            probe.numbers(1, () -> Scales.withHypotheses(1), (t, hypothesis) -> t.setWeight(hypothesis, 5));
            probe.numbers(2, TripodScale::new, (t, hypothesis) -> t.setWeight(hypothesis, 0));
            probe.numbers(8, Scales::full, (t, hypothesis) -> t.setWeight(hypothesis, 5));
        });
        sentences.says("`weight`: 0 to 1000000", () -> {
            probe.range(0, 1000000, TripodScale::new, (t, weight) -> t.setWeight(1, weight));
            probe.takes("1 for the only hypothesis", () -> Scales.withHypotheses(1), t -> t.setWeight(0, 1));
            weightsDue(Scales.withWeights(0, 1000000), 0, 1000000);
        });
        sentences.says("Returns the previous weight.", () -> {
            TripodScale t = Scales.withGreatestWeight();
            check.due("the greatest", t.setWeight(0, 0), Scales.GREATEST);
            check.due("the smallest", t.setWeight(0, 1000000), 0);
            check.due("the one set before", t.setWeight(0, 1000000), 1000000);
            t.undo();
            t.undo();
            t.undo();
            check.due("after undo", t.setWeight(0, 3), Scales.GREATEST);
        });
        sentences.says("Throws `IndexOutOfBoundsException` if there is no such hypothesis", () -> {
            probe.refuses("of 2", Probe.BOUNDS, TripodScale::new, t -> t.setWeight(2, 5));
            probe.refuses("of 1", Probe.BOUNDS, () -> Scales.withHypotheses(1), t -> t.setWeight(1, 5));
            probe.refuses("of 8", Probe.BOUNDS, Scales::full, t -> t.setWeight(8, 5));
            probe.refuses("-1", Probe.BOUNDS, Scales::withAll, t -> t.setWeight(-1, 5));
        });
        sentences.says("Throws `IllegalArgumentException` if weight is out of range", () -> {
            probe.refuses("weight -1", Probe.ARGUMENT, Scales::withAll, t -> t.setWeight(0, -1));
            probe.refuses("weight 1000001", Probe.ARGUMENT, Scales::full, t -> t.setWeight(7, 1000001));
        });
        sentences.says("Throws `IllegalStateException` if all weights would be 0", () -> {
            probe.refuses("the only hypothesis", Probe.STATE, () -> Scales.withHypotheses(1), t -> t.setWeight(0, 0));
            probe.refuses("the others are 0", Probe.STATE, () -> Scales.withWeights(0, 5, 0), t -> t.setWeight(1, 0));
            probe.refuses("the last of eight", Probe.STATE, () -> Scales.withWeights(0, 0, 0, 0, 0, 0, 0, 1), t -> t.setWeight(7, 0));
            probe.takes("the others are not all 0", () -> Scales.withWeights(0, 5, 1), t -> t.setWeight(1, 0));
            probe.takes("it is 0 already", () -> Scales.withWeights(0, 5, 0), t -> t.setWeight(0, 0));
            // Weights of hypotheses that are no more do not count.
            probe.refuses("fewer hypotheses", Probe.STATE, () -> fewer(), t -> t.setWeight(0, 0));
        });
    }

    private static TripodScale fewer() {
        TripodScale t = Scales.full();
        t.setHypotheses(1);
        return t;
    }

    private void promise12() {
        sentences.section("Promise 12: addTest");
        sentences.says("Adds a test.", () -> {
            for (int count = 1; count <= 10; count++) {
                int fixed = count;
                probe.numbers(count, () -> Scales.withTests(fixed), (t, test) -> t.observe(test, 2));
            }
            TripodScale t = Scales.withChances(SURE_0, SURE_1);
            t.undo();
            t.undo();
            t.undo();
            check.due("in the place of one that was taken back", t.addTest(), 0);
            check.due("a new test's outcome 2 is sure", t.observe(0, 2), 0);
        });
        sentences.says("Undoable.", () -> {
            probe.savesChange(TripodScale::new, t -> t.addTest());
            probe.savesChange(() -> Scales.withTests(9), t -> t.addTest());
        });
        sentences.says("Returns the number of the test.", () -> {
            TripodScale t = new TripodScale();
            for (int i = 0; i < 10; i++) {
                check.due("addTest", t.addTest(), i);
            }
            t.undo();
            t.undo();
            check.due("after undo", t.addTest(), 8);
        });
        sentences.says("Throws `IllegalStateException` if there are 10 tests", () -> {
            probe.refuses("with 10 tests", Probe.STATE, () -> Scales.withTests(10), t -> t.addTest());
            probe.refuses("with 10 tests", Probe.STATE, Scales::full, t -> t.addTest());
            probe.takes("with 9 tests", () -> Scales.withTests(9), t -> t.addTest());
            probe.takes("after an undo", () -> Scales.withTests(10), t -> t.undo() + t.addTest());
        });
    }

    private void promise13() {
        sentences.section("Promise 13: setChances");
        sentences.says("Sets the chances of a test for a hypothesis.", () -> {
            TripodScale t = Scales.withTests(10);
            t.setHypotheses(8);
            t.setChances(9, 7, 2, 3);
            t.observe(9, 2);
            weightsDue(t, 2, 2, 2, 2, 2, 2, 2, 1);
            t.observe(8, 2);
            weightsDue(t, 2, 2, 2, 2, 2, 2, 2, 1);
            check.due("only hypothesis 7 has a chance of outcome 0", t.observe(9, 0), 7);
            t.undo();
            check.due("only hypothesis 7 has a chance of outcome 1", t.observe(9, 1), 7);
        });
        sentences.says("The chance of outcome 2 becomes 10 minus the two others.", () -> {
            for (int chance0 = 0; chance0 <= 10; chance0++) {
                for (int chance1 = 0; chance1 <= 10 - chance0; chance1++) {
                    TripodScale t = Scales.withTests(1);
                    t.setChances(0, 1, chance0, chance1);
                    chanceDue(t, 2, 10 - chance0 - chance1);
                }
            }
        });
        sentences.says("Undoable.", () -> {
            probe.savesChange(() -> Scales.withTests(1), t -> t.setChances(0, 0, 0, 1));
            probe.savesChange(Scales::full, t -> t.setChances(9, 7, 10, 0));
            probe.saves(() -> Scales.withTests(1), t -> t.setChances(0, 0, 0, 0));
        });
        sentences.says("`test`: number of a test", () -> {
            probe.numbers(1, () -> Scales.withTests(1), (t, test) -> t.setChances(test, 0, 1, 1));
            probe.numbers(10, () -> Scales.withTests(10), (t, test) -> t.setChances(test, 0, 1, 1));
        });
        sentences.says("`hypothesis`: number of a hypothesis", () -> {
            probe.numbers(2, () -> Scales.withTests(1), (t, hypothesis) -> t.setChances(0, hypothesis, 1, 1));
            probe.numbers(1, () -> fewer(), (t, hypothesis) -> t.setChances(0, hypothesis, 1, 1));
            probe.numbers(8, Scales::full, (t, hypothesis) -> t.setChances(9, hypothesis, 1, 1));
        });
        sentences.says("`chance0`: chance of outcome 0, 0 to 10", () -> {
            probe.range(0, 10, Scales::withAll, (t, chance0) -> t.setChances(0, 0, chance0, 0));
            TripodScale t = Scales.withTests(1);
            t.setChances(0, 1, 10, 0);
            chanceDue(t, 0, 10);
        });
        sentences.says("`chance1`: chance of outcome 1, 0 to 10 minus chance0", () -> {
            for (int chance0 = 0; chance0 <= 10; chance0++) {
                int fixed = chance0;
                probe.range(0, 10 - chance0, Scales::withAll, (t, chance1) -> t.setChances(0, 0, fixed, chance1));
            }
            TripodScale t = Scales.withTests(1);
            t.setChances(0, 1, 0, 10);
            chanceDue(t, 1, 10);
        });
        sentences.says("Returns the chance of outcome 2.", () -> {
            TripodScale t = Scales.withTests(1);
            check.due("the greatest", t.setChances(0, 0, 0, 0), 10);
            check.due("the smallest", t.setChances(0, 0, 10, 0), 0);
            check.due("the smallest", t.setChances(0, 0, 0, 10), 0);
            check.due("one between", t.setChances(0, 0, 5, 4), 1);
        });
        sentences.says("Throws `IndexOutOfBoundsException` if there is no such test or hypothesis", () -> {
            probe.refuses("no test", Probe.BOUNDS, TripodScale::new, t -> t.setChances(0, 0, 1, 1));
            probe.refuses("test 10", Probe.BOUNDS, Scales::full, t -> t.setChances(10, 0, 1, 1));
            probe.refuses("test -1", Probe.BOUNDS, Scales::full, t -> t.setChances(-1, 0, 1, 1));
            probe.refuses("hypothesis 2", Probe.BOUNDS, () -> Scales.withTests(1), t -> t.setChances(0, 2, 1, 1));
            probe.refuses("hypothesis 8", Probe.BOUNDS, Scales::full, t -> t.setChances(0, 8, 1, 1));
            probe.refuses("hypothesis -1", Probe.BOUNDS, Scales::full, t -> t.setChances(0, -1, 1, 1));
        });
        sentences.says("Throws `IllegalArgumentException` if a chance is out of range", () -> {
            probe.refuses("chance0 -1", Probe.ARGUMENT, Scales::withAll, t -> t.setChances(0, 0, -1, 5));
            probe.refuses("chance0 11", Probe.ARGUMENT, Scales::withAll, t -> t.setChances(0, 0, 11, 0));
            probe.refuses("chance0 11, with a sum of 10", Probe.ARGUMENT, Scales::withAll, t -> t.setChances(0, 0, 11, -1));
            probe.refuses("chance1 11, with a sum of 10", Probe.ARGUMENT, Scales::withAll, t -> t.setChances(0, 0, -1, 11));
            probe.refuses("chance1 -1", Probe.ARGUMENT, Scales::withAll, t -> t.setChances(0, 0, 5, -1));
            probe.refuses("chance1 11", Probe.ARGUMENT, Scales::withAll, t -> t.setChances(0, 0, 0, 11));
            probe.refuses("a sum of 11", Probe.ARGUMENT, Scales::withAll, t -> t.setChances(0, 0, 5, 6));
            // The sum of these wraps around to 10.
            probe.refuses("a sum of 10 by overflow", Probe.ARGUMENT, Scales::withAll,
                    t -> t.setChances(0, 0, Integer.MAX_VALUE, Integer.MIN_VALUE + 11));
        });
    }

    private void promise14() {
        sentences.section("Promise 14: observe");
        sentences.says("Observes an outcome of a test.", () -> {
            TripodScale t = Scales.withTests(10);
            t.setChances(9, 0, 3, 7);
            t.setChances(9, 1, 4, 6);
            t.observe(9, 0);
            weightsDue(t, 3, 4);
            t.observe(9, 1);
            weightsDue(t, 7, 8);
            check.badState("outcome 2 is impossible", t, () -> t.observe(9, 2));
        });
        sentences.says("Undoable.", () -> {
            probe.savesChange(() -> Scales.withChances(SURE_0, new int[] {9, 1}), t -> t.observe(0, 0));
            probe.savesChange(Scales::full, t -> t.observe(9, 1));
            probe.savesChange(() -> tenthOfGreatestWith(10, 1), t -> t.observe(0, 0));
            probe.saves(() -> Scales.withTests(1), t -> t.observe(0, 2));
        });
        sentences.says("`test`: number of a test", () -> {
            probe.numbers(1, () -> Scales.withTests(1), (t, test) -> t.observe(test, 2));
            probe.numbers(10, Scales::full, (t, test) -> t.observe(test, 1));
        });
        sentences.says("`outcome`: 0 to 2", () -> probe.range(0, 2, Scales::withAll, (t, outcome) -> t.observe(0, outcome)));
        sentences.says("Returns the most probable hypothesis afterwards, the lowest number of equal ones.", () -> {
            check.due("of equal ones", Scales.withTests(1).observe(0, 2), 0);
            check.due("of eight equal ones", Scales.withChances(SURE_0, SURE_0, SURE_0, SURE_0, SURE_0, SURE_0, SURE_0, SURE_0)
                    .observe(0, 0), 0);
            check.due("the last", Scales.withChances(SURE_1, SURE_1, SURE_1, SURE_1, SURE_1, SURE_1, SURE_1, SURE_0).observe(0, 0), 7);
            check.due("of two equal ones", Scales.withChances(new int[] {1, 0}, new int[] {2, 0}, new int[] {2, 0}).observe(0, 0), 1);
            TripodScale t = Scales.withChances(new int[] {1, 0}, new int[] {5, 0});
            t.setWeight(0, 10);
            check.due("afterwards, not before", t.observe(0, 2), 0);
            check.due("the weights 18 and 5", t.observe(0, 0), 0);
            check.due("the weights 18 and 25", t.observe(0, 0), 1);
        });
        sentences.says("Throws `IndexOutOfBoundsException` if there is no such test", () -> {
            probe.refuses("no test", Probe.BOUNDS, TripodScale::new, t -> t.observe(0, 2));
            probe.refuses("test 1 of 1", Probe.BOUNDS, () -> Scales.withTests(1), t -> t.observe(1, 2));
            probe.refuses("test 10 of 10", Probe.BOUNDS, Scales::full, t -> t.observe(10, 0));
            probe.refuses("test -1", Probe.BOUNDS, Scales::full, t -> t.observe(-1, 0));
        });
        sentences.says("Throws `IllegalArgumentException` if outcome is out of range", () -> {
            probe.refuses("outcome -1", Probe.ARGUMENT, Scales::withAll, t -> t.observe(0, -1));
            probe.refuses("outcome 3", Probe.ARGUMENT, Scales::full, t -> t.observe(9, 3));
        });
        sentences.says("Throws `IllegalStateException` if all weights would be 0", () -> {
            probe.refuses("a chance of 0 for all", Probe.STATE, () -> Scales.withTests(1), t -> t.observe(0, 0));
            probe.refuses("for the only one", Probe.STATE, () -> Scales.withChances(SURE_1), t -> t.observe(0, 2));
            probe.refuses("a weight or a chance of 0", Probe.STATE, () -> zeros(0), t -> t.observe(0, 0));
            probe.takes("one of eight is left", () -> zeros(1), t -> t.observe(0, 0));
            probe.refuses("hypotheses that are no more", Probe.STATE, () -> fewer(), t -> t.observe(0, 0));
        });
        sentences.says("Throws `ArithmeticException` if a weight would be greater than 10^15 afterwards", () -> {
            check.due("10^14 times 10 and 1 times 1", tenthOfGreatestWith(10, 1).observe(0, 0), 0);
            check.due("10^15 times 1", greatestWith(1, 1).observe(0, 0), 0);
            check.due("10^15 times 10 and 1 times 10", greatestWith(10, 10).observe(0, 0), 0);
            check.due("10^15 times 10 and 1 times 0", greatestWith(10, 0).observe(0, 0), 0);
            check.due("10^15 times 9 and 1 times 9", greatestWith(9, 9).observe(0, 0), 0);
            check.due("10^15 times 4 and 1 times 8", greatestWith(4, 8).observe(0, 0), 0);
            probe.refuses("10^15 times 2 and 1 times 1", Probe.ARITHMETIC, () -> greatestWith(2, 1), t -> t.observe(0, 0));
            probe.refuses("10^15 times 10 and 1 times 6", Probe.ARITHMETIC, () -> greatestWith(10, 6), t -> t.observe(0, 0));
            probe.refuses("10^15 + 8950040", Probe.ARITHMETIC, HypothesesSentences::belowTheSmallestExcess, t -> t.observe(0, 0));
        });
    }

    /** Eight weights of 0 or 3 and chances of 0 where the weights are 3; but for the last ones, if they are to be left. */
    private static TripodScale zeros(int left) {
        TripodScale t = Scales.withWeights(0, 3, 0, 3, 0, 3, 0, 3);
        t.addTest();
        for (int i = 0; i < 8; i++) {
            t.setChances(0, i, i % 2 == 0 || i >= 8 - left ? 1 : 0, 1);
        }
        return t;
    }

    private void promise15() {
        sentences.section("Promise 15: odds");
        sentences.says("Returns the odds of a hypothesis, as a fraction.", () -> {
            oddsDue(new TripodScale(), 1, 1, 2);
            oddsDue(Scales.withWeights(6, 0, 3, 9), 0, 1, 3);
            oddsDue(Scales.withWeights(6, 0, 3, 9), 1, 0, 1);
            oddsDue(Scales.withHypotheses(1), 0, 1, 1);
            oddsDue(Scales.withGreatestWeight(), 1, 1, Scales.GREATEST + 1);
        });
        sentences.says("`hypothesis`: number of a hypothesis", () -> {
            probe.numbers(1, () -> fewer(), (t, hypothesis) -> t.odds(hypothesis, 0));
            probe.numbers(2, TripodScale::new, (t, hypothesis) -> t.odds(hypothesis, 0));
            probe.numbers(8, Scales::full, (t, hypothesis) -> t.odds(hypothesis, 1));
        });
        sentences.says("`part`: 0 or 1", () -> probe.range(0, 1, Scales::withAll, (t, part) -> t.odds(2, part)));
        sentences.says("Returns that part of the odds.", () -> {
            check.due("part 0", Scales.withWeights(4, 6).odds(0, 0), 2);
            check.due("part 1", Scales.withWeights(4, 6).odds(0, 1), 5);
        });
        sentences.says("Throws `IndexOutOfBoundsException` if there is no such hypothesis", () -> {
            probe.refuses("odds(2, 0) of 2", Probe.BOUNDS, TripodScale::new, t -> t.odds(2, 0));
            probe.refuses("odds(8, 0) of 8", Probe.BOUNDS, Scales::full, t -> t.odds(8, 0));
            probe.refuses("odds(-1, 0)", Probe.BOUNDS, Scales::full, t -> t.odds(-1, 0));
        });
        sentences.says("Throws `IllegalArgumentException` if part is neither 0 nor 1", () -> {
            probe.refuses("odds(0, -1)", Probe.ARGUMENT, Scales::withAll, t -> t.odds(0, -1));
            probe.refuses("odds(1, 2)", Probe.ARGUMENT, Scales::withAll, t -> t.odds(1, 2));
        });
    }

    private void promise16() {
        sentences.section("Promise 16: planValue");
        sentences.says("Returns the value of a plan, as a fraction.", () -> {
            valueDue(new TripodScale(), 0, 1, 2);
            valueDue(Scales.withChances(SURE_0, SURE_1), 1, 1, 1);
            TripodScale t = Scales.withTests(1);
            t.setChances(0, 0, 6, 0);
            valueDue(t, 3, 121, 125);
        });
        sentences.says("`tests`: number of tests of the plan, 0 to 3", () -> {
            probe.range(0, 3, Scales::withAll, (t, tests) -> t.planValue(tests, 0));
            probe.range(0, 3, () -> Scales.withTests(10), (t, tests) -> t.planValue(tests, 1));
        });
        sentences.says("`part`: 0 or 1", () -> {
            probe.range(0, 1, Scales::withAll, (t, part) -> t.planValue(3, part));
            probe.range(0, 1, TripodScale::new, (t, part) -> t.planValue(0, part));
        });
        sentences.says("Returns that part of the value.", () -> {
            check.due("part 0", Scales.withWeights(4, 6).planValue(0, 0), 3);
            check.due("part 1", Scales.withWeights(4, 6).planValue(0, 1), 5);
        });
        sentences.says("Throws `IllegalArgumentException` if an argument is out of range", () -> {
            probe.refuses("planValue(-1, 0)", Probe.ARGUMENT, Scales::withAll, t -> t.planValue(-1, 0));
            probe.refuses("planValue(4, 0)", Probe.ARGUMENT, Scales::withAll, t -> t.planValue(4, 0));
            probe.refuses("planValue(0, -1)", Probe.ARGUMENT, TripodScale::new, t -> t.planValue(0, -1));
            probe.refuses("planValue(3, 2)", Probe.ARGUMENT, Scales::withAll, t -> t.planValue(3, 2));
        });
        sentences.says("Throws `IllegalStateException` if tests is greater than 0 and there are no tests", () -> {
            for (int tests = 1; tests <= 3; tests++) {
                int fixed = tests;
                probe.refuses("without tests", Probe.STATE, TripodScale::new, t -> t.planValue(fixed, 0));
                probe.takes("with a test", () -> Scales.withTests(1), t -> t.planValue(fixed, 0));
            }
            probe.takes("no test asked, without tests", TripodScale::new, t -> t.planValue(0, 0));
            probe.refuses("after an undo", Probe.STATE, () -> testTakenBack(), t -> t.planValue(1, 1));
        });
    }

    private static TripodScale testTakenBack() {
        TripodScale t = Scales.withTests(1);
        t.undo();
        return t;
    }

    private void promise17() {
        sentences.section("Promise 17: planFirst");
        sentences.says("Returns the first test of a plan.", () -> {
            for (int best = 0; best < 10; best++) {
                TripodScale t = Scales.withTests(10);
                t.setChances(best, 0, 1, 0);
                check.due("the only test that tells anything", t.planFirst(1), best);
            }
            check.due("of a pair", pairOfTests().planFirst(2), 0);
        });
        sentences.says("`tests`: number of tests of the plan, 1 to 3", () -> {
            probe.range(1, 3, Scales::withAll, (t, tests) -> t.planFirst(tests));
            probe.range(1, 3, () -> Scales.withTests(10), (t, tests) -> t.planFirst(tests));
        });
        sentences.says("Returns the number of the test.", () -> {
            for (int d = 1; d <= 3; d++) {
                check.due("of one test", Scales.withTests(1).planFirst(d), 0);
                check.due("the last of ten, but earlier ones may come before it", withLaterEqual(9).planFirst(d), d == 1 ? 9 : 0);
            }
        });
        sentences.says("Throws `IllegalArgumentException` if tests is out of range", () -> {
            probe.refuses("planFirst(0)", Probe.ARGUMENT, Scales::withAll, t -> t.planFirst(0));
            probe.refuses("planFirst(4)", Probe.ARGUMENT, Scales::withAll, t -> t.planFirst(4));
            probe.refuses("planFirst(-1)", Probe.ARGUMENT, Scales::withAll, t -> t.planFirst(-1));
        });
        sentences.says("Throws `IllegalStateException` if there are no tests", () -> {
            for (int tests = 1; tests <= 3; tests++) {
                int fixed = tests;
                probe.refuses("without tests", Probe.STATE, TripodScale::new, t -> t.planFirst(fixed));
                probe.takes("with a test", () -> Scales.withTests(1), t -> t.planFirst(fixed));
            }
            probe.refuses("after an undo", Probe.STATE, () -> testTakenBack(), t -> t.planFirst(1));
        });
    }
}
