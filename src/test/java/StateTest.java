/** Promises 25 and 26: undo and digest. */
public final class StateTest {
    private static final Check CHECK = new Check();

    public static void main(String[] args) {
        undo();
        oldestIsDropped();
        undoBringsEverythingBack();
        undoOfReplacements();
        readingsAreNotSaved();
        digestOfNewObject();
        digestOfAll();
        CHECK.finish();
    }

    private static void undo() {
        TripodScale t = new TripodScale();
        CHECK.badState("undo of nothing", t, t::undo);
        t.place(0, 0, 5);
        t.setCell(0, 0, 0, 5000);
        CHECK.due("a call that changes nothing is saved", t.undo(), 1);
        CHECK.due("the object is still there", t.load(0, 0), 5);
        CHECK.due("undo", t.undo(), 0);
        CHECK.due("the object is gone", t.load(0, 0), 0);
        CHECK.badState("undo of nothing again", t, t::undo);
    }

    private static void oldestIsDropped() {
        TripodScale t = new TripodScale();
        for (int i = 0; i < 6; i++) {
            t.place(0, 0, 1 << i);
        }
        for (int i = 0; i < 4; i++) {
            CHECK.due("undo", t.undo(), 3 - i);
            CHECK.due("load after undo", t.load(0, 0), (1 << 5 - i) - 1);
        }
        CHECK.badState("a fifth undo", t, t::undo);
        t.place(0, 0, 100);
        CHECK.due("undo", t.undo(), 0);
        CHECK.due("load after undo", t.load(0, 0), 3);
    }

    /** Without older saved states the undo can only bring back what the call itself has saved. */
    private static void undoBringsEverythingBack() {
        TripodScale t = new TripodScale();
        fill(t);
        for (int i = 0; i < 4; i++) {
            t.undo();
        }
        long before = t.digest();
        t.setCell(2, 3, 90, 77);
        back(t, before, "setCell");
        t.place(1, 2, 3);
        back(t, before, "place");
        t.lift(0);
        back(t, before, "lift");
        t.setHypotheses(5);
        back(t, before, "setHypotheses");
        t.setWeight(1, 77);
        back(t, before, "setWeight");
        t.addTest();
        back(t, before, "addTest");
        t.setChances(0, 1, 9, 1);
        back(t, before, "setChances");
        t.observe(0, 0);
        back(t, before, "observe");
        t.addSupporter(3, 3);
        back(t, before, "addSupporter");
        t.addSession(3, 3);
        back(t, before, "addSession");
        t.clearSessions();
        back(t, before, "clearSessions");
    }

    private static void back(TripodScale t, long before, String call) {
        CHECK.due("digest changes by " + call, t.digest() != before, true);
        CHECK.due("undo of " + call, t.undo(), 0);
        CHECK.due("digest after the undo of " + call, t.digest(), before);
    }

    /** What came in the place of something is taken away again. */
    private static void undoOfReplacements() {
        TripodScale t = new TripodScale();
        t.addSupporter(50, 7);
        t.addSession(40, 2);
        long before = t.digest();
        t.clearSessions();
        t.addSupporter(60, 5);
        t.addSession(70, 9);
        CHECK.due("undo", t.undo(), 3);
        CHECK.due("undo", t.undo(), 2);
        CHECK.due("undo of clearSessions", t.undo(), 1);
        CHECK.due("digest, with one saved state fewer: the oldest was dropped", t.digest(), before - 1);
        TripodScale u = new TripodScale();
        u.place(10, 20, 30);
        before = u.digest();
        u.lift(0);
        u.place(1, 2, 3);
        u.undo();
        CHECK.due("undo of lift", u.undo(), 1);
        CHECK.due("digest after the undo of lift", u.digest(), before);
        u.addTest();
        u.setChances(0, 0, 1, 2);
        before = u.digest();
        u.setHypotheses(3);
        u.undo();
        CHECK.due("digest after the undo of setHypotheses", u.digest(), before);
    }

    private static void fill(TripodScale t) {
        t.place(50, 50, 300);
        t.place(20, 30, 7);
        t.setHypotheses(3);
        t.setWeight(2, 4);
        t.addTest();
        t.setChances(0, 0, 7, 2);
        t.setChances(0, 1, 1, 4);
        t.addSupporter(50, 7);
        t.addSupporter(30, 1);
        t.addSession(40, 0);
        t.addSession(20, 0);
        t.addSession(60, 0);
        t.setCell(0, 0, 0, 4000);
    }

    private static void readingsAreNotSaved() {
        TripodScale t = new TripodScale();
        t.addTest();
        t.addSession(1, 1);
        t.load(0, 0);
        t.reading(0, 1);
        t.isStable();
        t.overloaded();
        t.room(0, 0);
        t.odds(0, 0);
        t.planValue(3, 0);
        t.planFirst(3);
        t.tail(3, 2, 1);
        t.fewestTrials(1, 9, 3);
        t.covered();
        t.supporterOf(0);
        t.digest();
        CHECK.due("undo", t.undo(), 1);
    }

    private static long hash(long... values) {
        long h = 2801;
        for (long v : values) {
            h = 31 * h + v;
        }
        return h;
    }

    private static void digestOfNewObject() {
        CHECK.due("digest of a new object", new TripodScale().digest(), hash(
                0, 0, 5000, 0, 1,
                100, 0, 5000, 0, 1,
                0, 100, 5000, 0, 1,
                1, 0,
                0,
                2, 1, 1,
                0,
                0,
                0,
                0));
    }

    private static void digestOfAll() {
        TripodScale t = new TripodScale();
        fill(t);
        CHECK.due("digest", t.digest(), hash(
                0, 0, 4000, 7, 2,
                100, 0, 5000, 757, 5,
                0, 100, 5000, 1521, 10,
                1, 0,
                2, 50, 50, 300, 20, 30, 7,
                3, 1, 1, 4,
                1, 7, 2, 1, 1, 4, 5, 0, 0, 10,
                2, 50, 7, 30, 1,
                3, 40, 0, 0, 20, 0, 1, 60, 0, -1,
                4));
        t.setCell(2, 0, 100, 1);
        t.place(-100, 0, 1000);
        CHECK.due("digest, unstable and overloaded", t.digest(), hash(
                0, 0, 4000, 4007, 2,
                100, 0, 5000, -4243, 5,
                0, 100, 1, 1521, 10,
                0, 4,
                3, 50, 50, 300, 20, 30, 7, -100, 0, 1000,
                3, 1, 1, 4,
                1, 7, 2, 1, 1, 4, 5, 0, 0, 10,
                2, 50, 7, 30, 1,
                3, 40, 0, 0, 20, 0, 1, 60, 0, -1,
                4));
    }
}
