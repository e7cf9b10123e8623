import java.math.BigInteger;

/** Promises 18 and 19: tail and fewestTrials, each for all arguments against another way to count. */
public final class TrialsTest {
    private static final Check CHECK = new Check();
    // TAILS[p][n][c], counted by one trial after the other.
    private static final BigInteger[][][] TAILS = new BigInteger[11][16][18];

    public static void main(String[] args) {
        fillTails();
        tail();
        fewestTrials();
        CHECK.finish();
    }

    private static void fillTails() {
        for (int p = 0; p <= 10; p++) {
            for (int n = 0; n <= 15; n++) {
                for (int c = 0; c <= 17; c++) {
                    TAILS[p][n][c] = countedTail(p, n, c);
                }
            }
        }
    }

    private static BigInteger countedTail(int p, int n, int c) {
        if (c == 0) {
            return BigInteger.TEN.pow(n);
        }
        if (n == 0) {
            return BigInteger.ZERO;
        }
        BigInteger success = TAILS[p][n - 1][c - 1].multiply(BigInteger.valueOf(p));
        BigInteger failure = TAILS[p][n - 1][c].multiply(BigInteger.valueOf(10 - p));
        return success.add(failure);
    }

    private static void tail() {
        TripodScale t = new TripodScale();
        CHECK.due("example 3", t.tail(3, 2, 5), 500);
        CHECK.due("tail(0, 0, 0)", t.tail(0, 0, 0), 1);
        CHECK.due("tail(0, 1, 10)", t.tail(0, 1, 10), 0);
        CHECK.due("tail(15, 0, 0)", t.tail(15, 0, 0), 1000000000000000L);
        CHECK.due("tail(15, 16, 10)", t.tail(15, 16, 10), 0);
        for (int p = 0; p <= 10; p++) {
            for (int n = 0; n <= 15; n++) {
                for (int c = 0; c <= 16; c++) {
                    CHECK.due("tail(" + n + ", " + c + ", " + p + ")", t.tail(n, c, p), TAILS[p][n][c].longValueExact());
                }
            }
        }
        CHECK.badArgument("tail(-1, 0, 0)", t, () -> t.tail(-1, 0, 0));
        CHECK.badArgument("tail(16, 0, 0)", t, () -> t.tail(16, 0, 0));
        CHECK.badArgument("tail(0, -1, 0)", t, () -> t.tail(0, -1, 0));
        CHECK.badArgument("tail(0, 17, 0)", t, () -> t.tail(0, 17, 0));
        CHECK.badArgument("tail(0, 0, -1)", t, () -> t.tail(0, 0, -1));
        CHECK.badArgument("tail(0, 0, 11)", t, () -> t.tail(0, 0, 11));
    }

    private static int searchedPlan(int p0, int p1, int m) {
        BigInteger limit = BigInteger.valueOf(m);
        for (int n = 0; n <= 15; n++) {
            BigInteger whole = BigInteger.TEN.pow(n);
            for (int c = 0; c <= n + 1; c++) {
                BigInteger alarms = TAILS[p0][n][c];
                BigInteger misses = whole.subtract(TAILS[p1][n][c]);
                if (alarms.multiply(limit).compareTo(whole) <= 0 && misses.multiply(limit).compareTo(whole) <= 0) {
                    return 100 * n + c;
                }
            }
        }
        return -1;
    }

    private static void fewestTrials() {
        TripodScale t = new TripodScale();
        CHECK.due("example 3", t.fewestTrials(1, 9, 10), 101);
        CHECK.due("example 3", t.fewestTrials(5, 5, 3), -1);
        CHECK.due("fewestTrials(0, 10, 1000)", t.fewestTrials(0, 10, 1000), 101);
        CHECK.due("fewestTrials(3, 3, 1)", t.fewestTrials(3, 3, 1), 0);
        CHECK.due("fewestTrials(10, 0, 2)", t.fewestTrials(10, 0, 2), -1);
        int[] limits = {1, 2, 3, 4, 5, 9, 10, 11, 20, 50, 99, 100, 101, 500, 999, 1000};
        for (int p0 = 0; p0 <= 10; p0++) {
            for (int p1 = 0; p1 <= 10; p1++) {
                for (int m : limits) {
                    String call = "fewestTrials(" + p0 + ", " + p1 + ", " + m + ")";
                    CHECK.due(call, t.fewestTrials(p0, p1, m), searchedPlan(p0, p1, m));
                }
            }
        }
        CHECK.badArgument("chance0 -1", t, () -> t.fewestTrials(-1, 5, 1));
        CHECK.badArgument("chance0 11", t, () -> t.fewestTrials(11, 5, 1));
        CHECK.badArgument("chance1 -1", t, () -> t.fewestTrials(5, -1, 1));
        CHECK.badArgument("chance1 11", t, () -> t.fewestTrials(5, 11, 1));
        CHECK.badArgument("limit 0", t, () -> t.fewestTrials(5, 5, 0));
        CHECK.badArgument("limit 1001", t, () -> t.fewestTrials(5, 5, 1001));
    }
}
