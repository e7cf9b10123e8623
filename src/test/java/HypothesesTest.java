/** Promises 10 to 17: setHypotheses, setWeight, addTest, setChances, observe, odds, planValue, planFirst. */
public final class HypothesesTest {
    private static final Check CHECK = new Check();

    public static void main(String[] args) {
        setHypotheses();
        setWeight();
        addTest();
        setChances();
        observe();
        observeRefuses();
        observeGreatWeights();
        odds();
        planValue();
        planFirst();
        planOfGreatWeights();
        planOfAllTests();
        example();
        CHECK.finish();
    }

    private static void oddsDue(TripodScale t, int hypothesis, long numerator, long denominator) {
        CHECK.fraction("odds(" + hypothesis + ")", t.odds(hypothesis, 0), t.odds(hypothesis, 1), numerator, denominator);
    }

    private static void valueDue(TripodScale t, int tests, long numerator, long denominator) {
        CHECK.fraction("planValue(" + tests + ")", t.planValue(tests, 0), t.planValue(tests, 1), numerator, denominator);
    }

    private static void setHypotheses() {
        TripodScale t = new TripodScale();
        t.addTest();
        t.setChances(0, 1, 3, 4);
        t.setWeight(0, 5);
        t.setWeight(1, 9);
        CHECK.badArgument("setHypotheses(0)", t, () -> t.setHypotheses(0));
        CHECK.badArgument("setHypotheses(9)", t, () -> t.setHypotheses(9));
        CHECK.badArgument("setHypotheses(-1)", t, () -> t.setHypotheses(-1));
        CHECK.due("setHypotheses(8)", t.setHypotheses(8), 2);
        oddsDue(t, 0, 1, 8);
        oddsDue(t, 1, 1, 8);
        oddsDue(t, 7, 1, 8);
        CHECK.badState("chances are 0, 0 and 10 again", t, () -> t.observe(0, 0));
        CHECK.badState("chances are 0, 0 and 10 again", t, () -> t.observe(0, 1));
        CHECK.due("setChances(0, 7)", t.setChances(0, 7, 10, 0), 0);
        CHECK.due("setHypotheses(8) again", t.setHypotheses(8), 8);
        CHECK.badState("chances are 0, 0 and 10 again", t, () -> t.observe(0, 0));
        CHECK.due("setHypotheses(1)", t.setHypotheses(1), 8);
        oddsDue(t, 0, 1, 1);
        CHECK.outOfBounds("odds(1) of one hypothesis", t, () -> t.odds(1, 0));
        CHECK.due("the test is still there", t.addTest(), 1);
        t.undo();
        CHECK.due("undo", t.undo(), 2);
        oddsDue(t, 7, 1, 8);
    }

    private static void setWeight() {
        TripodScale t = new TripodScale();
        CHECK.outOfBounds("setWeight(2, 1)", t, () -> t.setWeight(2, 1));
        CHECK.outOfBounds("setWeight(-1, -1)", t, () -> t.setWeight(-1, -1));
        CHECK.badArgument("setWeight(0, -1)", t, () -> t.setWeight(0, -1));
        CHECK.badArgument("setWeight(0, 1000001)", t, () -> t.setWeight(0, 1000001));
        CHECK.due("setWeight(0, 1000000)", t.setWeight(0, 1000000), 1);
        CHECK.due("setWeight(1, 500000)", t.setWeight(1, 500000), 1);
        CHECK.due("weights set are not divided", t.setWeight(1, 0), 500000);
        CHECK.badState("setWeight(0, 0)", t, () -> t.setWeight(0, 0));
        CHECK.badArgument("setWeight(0, -1) again", t, () -> t.setWeight(0, -1));
        CHECK.due("setWeight(1, 0) again", t.setWeight(1, 0), 0);
        oddsDue(t, 0, 1, 1);
        oddsDue(t, 1, 0, 1);
        t.setHypotheses(1);
        CHECK.badState("the only weight", t, () -> t.setWeight(0, 0));
    }

    private static void addTest() {
        TripodScale t = new TripodScale();
        for (int i = 0; i < 10; i++) {
            CHECK.due("addTest", t.addTest(), i);
        }
        CHECK.badState("addTest of an eleventh", t, t::addTest);
        CHECK.badState("chances are 0, 0 and 10", t, () -> t.observe(9, 0));
        CHECK.badState("chances are 0, 0 and 10", t, () -> t.observe(9, 1));
        CHECK.due("outcome 2 is sure", t.observe(9, 2), 0);
        oddsDue(t, 1, 1, 2);
        t.undo();
        t.setChances(9, 0, 10, 0);
        t.undo();
        CHECK.due("undo of addTest", t.undo(), 2);
        CHECK.due("addTest again", t.addTest(), 9);
        CHECK.badState("a test added again is new", t, () -> t.observe(9, 0));
    }

    private static void setChances() {
        TripodScale t = new TripodScale();
        CHECK.outOfBounds("no test", t, () -> t.setChances(0, 0, 0, 0));
        t.addTest();
        CHECK.outOfBounds("setChances(1, 0)", t, () -> t.setChances(1, 0, 0, 0));
        CHECK.outOfBounds("setChances(-1, 0)", t, () -> t.setChances(-1, 0, 0, 0));
        CHECK.outOfBounds("setChances(0, 2)", t, () -> t.setChances(0, 2, 0, 0));
        CHECK.outOfBounds("setChances(0, -1)", t, () -> t.setChances(0, -1, 11, 0));
        CHECK.badArgument("chance0 -1", t, () -> t.setChances(0, 0, -1, 0));
        CHECK.badArgument("chance0 11", t, () -> t.setChances(0, 0, 11, 0));
        CHECK.badArgument("chance0 11, chance1 -1", t, () -> t.setChances(0, 0, 11, -1));
        CHECK.badArgument("chance1 -1", t, () -> t.setChances(0, 0, 3, -1));
        CHECK.badArgument("chance1 8 with chance0 3", t, () -> t.setChances(0, 0, 3, 8));
        CHECK.badArgument("chance1 greatest", t, () -> t.setChances(0, 0, 3, Integer.MAX_VALUE));
        CHECK.due("chances 3 and 7", t.setChances(0, 0, 3, 7), 0);
        CHECK.due("chances 10 and 0", t.setChances(0, 1, 10, 0), 0);
        CHECK.due("chances 0 and 0", t.setChances(0, 1, 0, 0), 10);
        CHECK.due("chances 2 and 5", t.setChances(0, 1, 2, 5), 3);
        t.observe(0, 0);
        oddsDue(t, 0, 3, 5);
        t.undo();
        t.observe(0, 1);
        oddsDue(t, 0, 7, 12);
        t.undo();
        t.observe(0, 2);
        oddsDue(t, 0, 0, 1);
    }

    private static void observe() {
        TripodScale t = new TripodScale();
        t.setHypotheses(3);
        t.addTest();
        t.setChances(0, 0, 2, 0);
        t.setChances(0, 1, 4, 6);
        t.setChances(0, 2, 4, 3);
        CHECK.due("the lowest of equal ones", t.observe(0, 0), 1);
        CHECK.due("weights are divided", t.setWeight(0, 1), 1);
        CHECK.due("weights are divided", t.setWeight(1, 2), 2);
        CHECK.due("observe(0, 1)", t.observe(0, 1), 1);
        CHECK.due("a weight of 0", t.setWeight(0, 0), 0);
        CHECK.due("weights are divided, beside 0", t.setWeight(1, 2), 2);
        CHECK.due("weights are divided, beside 0", t.setWeight(2, 1), 1);
        CHECK.due("an equal one of higher number", t.observe(0, 1), 1);
        t.setHypotheses(1);
        t.setWeight(0, 1000000);
        CHECK.due("one hypothesis", t.observe(0, 2), 0);
        CHECK.due("its weight", t.setWeight(0, 5), 1);
        // setWeight alone does not divide, observing does it for the weights as a whole.
        t.setHypotheses(2);
        t.setWeight(0, 400);
        t.setWeight(1, 1000);
        t.observe(0, 2);
        CHECK.due("weight 0", t.setWeight(0, 1), 2);
        CHECK.due("weight 1", t.setWeight(1, 1), 5);
    }

    private static void observeRefuses() {
        TripodScale t = new TripodScale();
        CHECK.outOfBounds("no test", t, () -> t.observe(0, 3));
        t.addTest();
        CHECK.outOfBounds("observe(1, 0)", t, () -> t.observe(1, 0));
        CHECK.outOfBounds("observe(-1, 0)", t, () -> t.observe(-1, 0));
        CHECK.badArgument("observe(0, 3)", t, () -> t.observe(0, 3));
        CHECK.badArgument("observe(0, -1)", t, () -> t.observe(0, -1));
        CHECK.badState("an impossible outcome", t, () -> t.observe(0, 0));
        t.setChances(0, 0, 10, 0);
        t.setWeight(0, 0);
        CHECK.badState("impossible for all with a weight", t, () -> t.observe(0, 0));
    }

    private static void observeGreatWeights() {
        TripodScale t = new TripodScale();
        t.addTest();
        t.addTest();
        t.setChances(0, 0, 9, 1);
        t.setChances(0, 1, 1, 9);
        t.setChances(1, 0, 10, 0);
        t.setChances(1, 1, 1, 0);
        for (int i = 0; i < 15; i++) {
            CHECK.due("observe(1, 0)", t.observe(1, 0), 0);
        }
        CHECK.due("the greatest weight", t.odds(0, 0), 1000000000000000L);
        CHECK.due("the sum", t.odds(0, 1), 1000000000000001L);
        CHECK.thrown("a weight of 10^16", t, () -> t.observe(1, 0), ArithmeticException.class);
        CHECK.thrown("a weight of 9 * 10^15", t, () -> t.observe(0, 0), ArithmeticException.class);
        CHECK.due("10^15 stays after the division", t.observe(0, 1), 0);
        CHECK.fraction("odds(1)", t.odds(1, 0), t.odds(1, 1), 9, 1000000000000009L);
        CHECK.due("its previous weight", t.setWeight(0, 4), 1000000000000000L);
    }

    private static void odds() {
        TripodScale t = new TripodScale();
        t.setHypotheses(4);
        t.setWeight(0, 6);
        t.setWeight(1, 0);
        t.setWeight(2, 3);
        t.setWeight(3, 9);
        oddsDue(t, 0, 1, 3);
        oddsDue(t, 1, 0, 1);
        oddsDue(t, 2, 1, 6);
        oddsDue(t, 3, 1, 2);
        CHECK.outOfBounds("odds(4, 2)", t, () -> t.odds(4, 2));
        CHECK.outOfBounds("odds(-1, 0)", t, () -> t.odds(-1, 0));
        CHECK.badArgument("odds(0, 2)", t, () -> t.odds(0, 2));
        CHECK.badArgument("odds(0, -1)", t, () -> t.odds(0, -1));
    }

    private static void planValue() {
        TripodScale t = new TripodScale();
        valueDue(t, 0, 1, 2);
        CHECK.badState("planValue(1, 0) without tests", t, () -> t.planValue(1, 0));
        CHECK.badState("planValue(3, 1) without tests", t, () -> t.planValue(3, 1));
        CHECK.badArgument("planValue(4, 0)", t, () -> t.planValue(4, 0));
        CHECK.badArgument("planValue(-1, 0)", t, () -> t.planValue(-1, 0));
        CHECK.badArgument("planValue(1, 2) without tests", t, () -> t.planValue(1, 2));
        CHECK.badArgument("planValue(0, -1)", t, () -> t.planValue(0, -1));
        t.addTest();
        valueDue(t, 1, 1, 2);
        t.addTest();
        t.setChances(0, 0, 7, 2);
        t.setChances(0, 1, 1, 4);
        t.setChances(1, 0, 5, 5);
        t.setChances(1, 1, 5, 0);
        valueDue(t, 1, 4, 5);
        valueDue(t, 2, 9, 10);
        valueDue(t, 3, 19, 20);
        t.setWeight(0, 0);
        valueDue(t, 0, 1, 1);
        valueDue(t, 3, 1, 1);
    }

    private static void planFirst() {
        TripodScale t = new TripodScale();
        CHECK.badArgument("planFirst(0)", t, () -> t.planFirst(0));
        CHECK.badArgument("planFirst(4)", t, () -> t.planFirst(4));
        CHECK.badState("planFirst(1) without tests", t, () -> t.planFirst(1));
        t.addTest();
        t.addTest();
        t.addTest();
        CHECK.due("the lowest of equal tests", t.planFirst(1), 0);
        CHECK.due("the lowest of equal tests", t.planFirst(3), 0);
        t.setChances(1, 0, 6, 0);
        t.setChances(2, 0, 6, 0);
        CHECK.due("the lower of the better tests", t.planFirst(1), 1);
        t.setChances(2, 0, 8, 0);
        CHECK.due("the best test", t.planFirst(1), 2);
        // A test that tells little alone may still come first, as one of the plan's two orders.
        t.setHypotheses(3);
        t.setChances(0, 0, 0, 10);
        t.setChances(1, 1, 10, 0);
        t.setChances(2, 0, 10, 0);
        t.setChances(2, 1, 0, 10);
        CHECK.due("one test tells all", t.planFirst(1), 2);
        CHECK.due("two tests tell all too", t.planFirst(2), 0);
        valueDue(t, 2, 1, 1);
        CHECK.badArgument("planFirst(-1)", t, () -> t.planFirst(-1));
    }

    /** The values F(3, w) of eight weights of 10^15 lie near the end of the longs. */
    private static void planOfGreatWeights() {
        TripodScale t = new TripodScale();
        t.setHypotheses(8);
        t.addTest();
        t.setWeight(0, 0);
        t.setChances(0, 7, 1, 0);
        for (int i = 1; i < 7; i++) {
            t.setChances(0, i, 10, 0);
        }
        for (int i = 0; i < 15; i++) {
            t.observe(0, 0);
        }
        CHECK.due("the weight of the sum", t.odds(7, 1), 6000000000000001L);
        t.addTest();
        t.setChances(1, 1, 0, 10);
        t.setChances(1, 2, 10, 0);
        t.setChances(1, 3, 5, 5);
        valueDue(t, 0, 1000000000000000L, 6000000000000001L);
        valueDue(t, 1, 3000000000000000L, 6000000000000001L);
        // Test 1 thrice splits hypothesis 3 from 1 and 2 in 3 cases of 4; test 0 twice finds hypothesis 7 in 99 of 100.
        valueDue(t, 3, 375000000000000099L, 600000000000000100L);
    }

    /** Test i finds hypothesis i; eight hypotheses and ten tests are the most. */
    private static void planOfAllTests() {
        TripodScale t = new TripodScale();
        t.setHypotheses(8);
        for (int i = 0; i < 10; i++) {
            t.addTest();
            t.setChances(i, i % 8, 0, 10);
        }
        valueDue(t, 1, 1, 4);
        valueDue(t, 2, 3, 8);
        valueDue(t, 3, 1, 2);
        CHECK.due("planFirst(3)", t.planFirst(3), 0);
        for (int i = 0; i < 8; i++) {
            t.setChances(9, i, i < 3 ? 10 : 0, i < 6 ? 0 : 10);
        }
        valueDue(t, 1, 3, 8);
        CHECK.due("the last test of ten", t.planFirst(1), 9);
        t.setWeight(7, 0);
        CHECK.due("observe of the last test", t.observe(9, 1), 6);
        oddsDue(t, 6, 1, 1);
        oddsDue(t, 7, 0, 1);
        CHECK.badState("the last weight of eight", t, () -> t.setWeight(6, 0));
        CHECK.due("setHypotheses with ten tests", t.setHypotheses(8), 8);
        CHECK.badState("the chances of the last test", t, () -> t.observe(9, 1));
    }

    private static void example() {
        TripodScale t = new TripodScale();
        CHECK.due("example 2", t.addTest(), 0);
        CHECK.due("example 2", t.setChances(0, 0, 7, 2), 1);
        CHECK.due("example 2", t.setChances(0, 1, 1, 4), 5);
        CHECK.due("example 2", t.planValue(1, 0), 4);
        CHECK.due("example 2", t.planValue(1, 1), 5);
        CHECK.due("example 2", t.planFirst(1), 0);
        CHECK.due("example 2", t.observe(0, 0), 0);
        CHECK.due("example 2", t.odds(1, 0), 1);
        CHECK.due("example 2", t.odds(1, 1), 8);
    }
}
