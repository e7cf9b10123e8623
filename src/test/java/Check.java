/** Counts the answers that are not due; a test ends with finish(). */
final class Check {
    interface Call {
        long answer();
    }

    private String about = "";
    private int asked = 0;
    private int wrong = 0;

    /** What the answers that follow are about; it is told with each wrong one. */
    void about(String words) {
        about = words + ": ";
    }

    int asked() {
        return asked;
    }

    void due(String what, long got, long want) {
        asked++;
        if (got != want) {
            fail(what + " answered " + got + ", due is " + want);
        }
    }

    void due(String what, boolean got, boolean want) {
        due(what, got ? 1 : 0, want ? 1 : 0);
    }

    void fail(String what) {
        wrong++;
        System.out.println(about + what);
    }

    void outOfBounds(String what, TripodScale scale, Call call) {
        thrown(what, scale, call, IndexOutOfBoundsException.class);
    }

    void badArgument(String what, TripodScale scale, Call call) {
        thrown(what, scale, call, IllegalArgumentException.class);
    }

    void badState(String what, TripodScale scale, Call call) {
        thrown(what, scale, call, IllegalStateException.class);
    }

    /** Also asks that the throwing call changes nothing that the digest tells. */
    void thrown(String what, TripodScale scale, Call call, Class<? extends RuntimeException> want) {
        asked++;
        long before = scale.digest();
        String got;
        try {
            got = "answered " + call.answer();
        } catch (RuntimeException e) {
            got = e.getClass() == want ? "" : "threw " + e;
        }
        if (!got.isEmpty()) {
            fail(what + " " + got + ", due is " + want.getName());
        }
        due(what + ": digest afterwards", scale.digest(), before);
    }

    void fraction(String what, long numerator, long denominator, long wantNumerator, long wantDenominator) {
        due(what + " part 0", numerator, wantNumerator);
        due(what + " part 1", denominator, wantDenominator);
    }

    void finish() {
        if (wrong != 0) {
            System.out.println(wrong + " of " + asked + " answers are wrong");
            System.exit(1);
        }
        System.out.println(asked + " answers are as due");
    }
}
