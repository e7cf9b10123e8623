/** Objects in the states from which the tests of the document's sentences start. */
final class Scales {
    interface Maker {
        TripodScale make();
    }

    static final int ALL_HOURS = 16777215;
    static final long GREATEST = 1000000000000000L;

    private Scales() {
    }

    /** Objects 0, 1, 2 .. with the weights 10, 11, 12 .., inside the triangle. */
    static TripodScale withObjects(int count) {
        TripodScale t = new TripodScale();
        for (int i = 0; i < count; i++) {
            t.place(3 * i, 50 - 5 * i, 10 + i);
        }
        return t;
    }

    static TripodScale withHypotheses(int count) {
        TripodScale t = new TripodScale();
        t.setHypotheses(count);
        return t;
    }

    static TripodScale withWeights(int... weights) {
        TripodScale t = withHypotheses(weights.length);
        for (int i = 0; i < weights.length; i++) {
            t.setWeight(i, weights[i]);
        }
        return t;
    }

    static TripodScale withTests(int count) {
        TripodScale t = new TripodScale();
        for (int i = 0; i < count; i++) {
            t.addTest();
        }
        return t;
    }

    /** One test; each row holds the chances of the outcomes 0 and 1 for a hypothesis. */
    static TripodScale withChances(int[]... rows) {
        TripodScale t = withHypotheses(rows.length);
        addTest(t, rows);
        return t;
    }

    static int addTest(TripodScale t, int[]... rows) {
        int test = t.addTest();
        for (int i = 0; i < rows.length; i++) {
            t.setChances(test, i, rows[i][0], rows[i][1]);
        }
        return test;
    }

    /** The weights 10^15 and 1; outcome 0 of test 0 would make it 10^16 and 1, outcome 1 changes nothing. */
    static TripodScale withGreatestWeight() {
        TripodScale t = withChances(new int[] {10, 0}, new int[] {1, 1});
        for (int i = 0; i < 15; i++) {
            t.observe(0, 0);
        }
        t.setChances(0, 0, 1, 1);
        t.setChances(0, 0, 9, 1);
        return t;
    }

    static TripodScale withSupporters(int count) {
        TripodScale t = new TripodScale();
        for (int i = 0; i < count; i++) {
            t.addSupporter(10 + i, ALL_HOURS);
        }
        return t;
    }

    static TripodScale withSessions(int count) {
        TripodScale t = new TripodScale();
        for (int i = 0; i < count; i++) {
            t.addSession(10 + i, i);
        }
        return t;
    }

    /** Something of everything, and four saved states that differ in what they hold. */
    static TripodScale withAll() {
        TripodScale t = withChances(new int[] {7, 2}, new int[] {1, 4}, new int[] {5, 5});
        t.setWeight(2, 4);
        t.place(50, 50, 300);
        t.place(20, 30, 7);
        t.addTest();
        t.addSupporter(50, 7);
        t.addSession(40, 0);
        t.addSession(60, 0);
        t.setCell(0, 0, -10, 4000);
        t.addSupporter(30, 1);
        t.observe(0, 0);
        t.place(10, 10, 3);
        return t;
    }

    /** As much of everything as there can be, and four saved states. */
    static TripodScale full() {
        TripodScale t = withObjects(8);
        t.setHypotheses(8);
        for (int test = 0; test < 10; test++) {
            t.addTest();
            for (int i = 0; i < 8; i++) {
                t.setChances(test, i, test, (i + 1) % (11 - test));
            }
        }
        for (int i = 0; i < 8; i++) {
            t.addSupporter(100 + i, ALL_HOURS - (1 << i));
            t.addSession(105 - i, 23 - i);
        }
        return t;
    }
}
