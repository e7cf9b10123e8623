/** Promises 20 to 24: addSupporter, addSession, clearSessions, covered, supporterOf. */
public final class SupportersTest {
    private static final Check CHECK = new Check();
    private static final int ALL_HOURS = 16777215;

    public static void main(String[] args) {
        addSupporter();
        addSession();
        clearSessions();
        canTake();
        assignment();
        fullAssignment();
        example();
        CHECK.finish();
    }

    private static void takersDue(TripodScale t, int... takers) {
        int covered = 0;
        for (int i = 0; i < takers.length; i++) {
            CHECK.due("supporterOf(" + i + ")", t.supporterOf(i), takers[i]);
            covered += takers[i] == -1 ? 0 : 1;
        }
        CHECK.due("covered()", t.covered(), covered);
    }

    private static void addSupporter() {
        TripodScale t = new TripodScale();
        CHECK.badArgument("strength 0", t, () -> t.addSupporter(0, 0));
        CHECK.badArgument("strength 100001", t, () -> t.addSupporter(100001, 0));
        CHECK.badArgument("hours -1", t, () -> t.addSupporter(1, -1));
        CHECK.badArgument("hours 2^24", t, () -> t.addSupporter(1, 16777216));
        for (int i = 0; i < 8; i++) {
            CHECK.due("addSupporter", t.addSupporter(i == 0 ? 1 : 100000, i == 1 ? 0 : ALL_HOURS), i);
        }
        CHECK.badState("addSupporter of a ninth", t, () -> t.addSupporter(1, 1));
        CHECK.badArgument("addSupporter of a ninth, badly", t, () -> t.addSupporter(0, 1));
        CHECK.due("undo", t.undo(), 3);
        CHECK.due("addSupporter again", t.addSupporter(1, 1), 7);
    }

    private static void addSession() {
        TripodScale t = new TripodScale();
        CHECK.badArgument("load 0", t, () -> t.addSession(0, 0));
        CHECK.badArgument("load 100001", t, () -> t.addSession(100001, 0));
        CHECK.badArgument("hour -1", t, () -> t.addSession(1, -1));
        CHECK.badArgument("hour 24", t, () -> t.addSession(1, 24));
        for (int i = 0; i < 8; i++) {
            CHECK.due("addSession", t.addSession(i == 0 ? 1 : 100000, i == 1 ? 0 : 23), i);
        }
        CHECK.badState("addSession of a ninth", t, () -> t.addSession(1, 1));
        CHECK.badArgument("addSession of a ninth, badly", t, () -> t.addSession(1, 24));
        CHECK.due("undo", t.undo(), 3);
        CHECK.due("addSession again", t.addSession(1, 1), 7);
    }

    private static void clearSessions() {
        TripodScale t = new TripodScale();
        CHECK.due("clearSessions of none", t.clearSessions(), 0);
        t.addSupporter(5, 1);
        t.addSupporter(6, 1);
        t.addSession(5, 0);
        CHECK.due("clearSessions", t.clearSessions(), 3);
        CHECK.due("covered", t.covered(), 0);
        CHECK.outOfBounds("supporterOf(0)", t, () -> t.supporterOf(0));
        CHECK.due("addSession", t.addSession(5, 0), 0);
        takersDue(t, -1);
        CHECK.due("addSupporter", t.addSupporter(5, 1), 0);
        takersDue(t, 0);
        t.undo();
        t.undo();
        CHECK.due("undo of clearSessions", t.undo(), 1);
        takersDue(t, 0);
        CHECK.due("clearSessions once more", t.clearSessions(), 3);
    }

    private static void canTake() {
        TripodScale t = new TripodScale();
        t.addSupporter(10, 1 << 23 | 1);
        t.addSession(10, 23);
        takersDue(t, 0);
        t.undo();
        takersDue(t);
        t.addSession(10, 0);
        takersDue(t, 0);
        t.undo();
        t.addSession(11, 0);
        takersDue(t, -1);
        t.undo();
        t.addSession(1, 22);
        takersDue(t, -1);
        CHECK.outOfBounds("supporterOf(1)", t, () -> t.supporterOf(1));
        CHECK.outOfBounds("supporterOf(-1)", t, () -> t.supporterOf(-1));
    }

    private static void assignment() {
        TripodScale t = new TripodScale();
        t.addSupporter(50, 7);
        t.addSupporter(30, 1);
        t.addSession(20, 0);
        takersDue(t, 0);
        t.addSession(40, 1);
        takersDue(t, 1, 0);
        t.addSession(1, 1);
        takersDue(t, 1, 0, -1);
        TripodScale u = new TripodScale();
        u.addSupporter(9, 1);
        u.addSession(10, 0);
        u.addSession(9, 0);
        u.addSession(8, 0);
        takersDue(u, -1, 0, -1);
        // Session 0 gives way only where another supporter keeps the number of sessions.
        TripodScale v = new TripodScale();
        v.addSupporter(5, 3);
        v.addSession(5, 0);
        v.addSession(5, 1);
        takersDue(v, 0, -1);
        v.addSupporter(5, 1);
        takersDue(v, 1, 0);
        v.addSupporter(5, 2);
        takersDue(v, 0, 2);
    }

    private static void fullAssignment() {
        TripodScale t = new TripodScale();
        for (int i = 0; i < 8; i++) {
            t.addSupporter(100 - i, ALL_HOURS);
            t.addSession(93 + i, i);
        }
        takersDue(t, 7, 6, 5, 4, 3, 2, 1, 0);
        t.clearSessions();
        for (int i = 0; i < 8; i++) {
            t.addSupporter(100, ALL_HOURS);
            t.addSession(100, 23 - i);
        }
        takersDue(t, 0, 1, 2, 3, 4, 5, 6, 7);
        t.undo();
        t.addSession(101, 0);
        takersDue(t, 0, 1, 2, 3, 4, 5, 6, -1);
    }

    private static void example() {
        TripodScale t = new TripodScale();
        CHECK.due("example 4", t.addSupporter(50, 7), 0);
        CHECK.due("example 4", t.addSupporter(30, 1), 1);
        CHECK.due("example 4", t.addSession(40, 0), 0);
        CHECK.due("example 4", t.addSession(20, 0), 1);
        CHECK.due("example 4", t.covered(), 2);
        takersDue(t, 0, 1);
    }
}
