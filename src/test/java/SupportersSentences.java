/** Promises 20 to 24, and what the description says of supporters and sessions. */
final class SupportersSentences {
    private static final int ALL = Scales.ALL_HOURS;

    private final Check check;
    private final Probe probe;
    private final Sentences sentences;

    SupportersSentences(Check check, Probe probe, Sentences sentences) {
        this.check = check;
        this.probe = probe;
        this.sentences = sentences;
    }

    void ask() {
        description();
        promise20();
        promise21();
        promise22();
        promise23();
        promise24();
    }

    private void takersDue(TripodScale t, int... takers) {
        int covered = 0;
        for (int i = 0; i < takers.length; i++) {
            check.due("supporterOf(" + i + ")", t.supporterOf(i), takers[i]);
            covered += takers[i] == TripodScale.NONE ? 0 : 1;
        }
        check.due("covered()", t.covered(), covered);
        check.outOfBounds("supporterOf(" + takers.length + ")", t, () -> t.supporterOf(takers.length));
    }

    /** Rows of strength and hours, then rows of load and hour. */
    private static TripodScale with(int[][] supporters, int[][] sessions) {
        TripodScale t = new TripodScale();
        for (int[] supporter : supporters) {
            t.addSupporter(supporter[0], supporter[1]);
        }
        for (int[] session : sessions) {
            t.addSession(session[0], session[1]);
        }
        return t;
    }

    private static TripodScale one(int strength, int hours, int load, int hour) {
        return with(new int[][] {{strength, hours}}, new int[][] {{load, hour}});
    }

    private static TripodScale equal(int supporters, int sessions) {
        TripodScale t = Scales.withSupporters(supporters);
        for (int i = 0; i < sessions; i++) {
            t.addSession(1, 5);
        }
        return t;
    }

    private void description() {
        sentences.section("Description");
        sentences.says("There are at most 8 supporters, each with a strength, 1 to 100000, and a set of hours (a bit set of 24"
                + " bits), and at most 8 sessions, each with a load, 1 to 100000, and an hour, 0 to 23.", () -> {
            probe.refuses("a ninth supporter", Probe.STATE, () -> Scales.withSupporters(8), t -> t.addSupporter(1, 1));
            probe.refuses("a ninth session", Probe.STATE, () -> Scales.withSessions(8), t -> t.addSession(1, 1));
            takersDue(equal(8, 8), 0, 1, 2, 3, 4, 5, 6, 7);
            probe.range(1, 100000, TripodScale::new, (t, strength) -> t.addSupporter(strength, 1));
            probe.range(1, 100000, TripodScale::new, (t, load) -> t.addSession(load, 1));
            probe.refuses("hour 24 of a supporter", Probe.ARGUMENT, TripodScale::new, t -> t.addSupporter(1, 1 << 24));
            for (int hour = 0; hour <= 23; hour++) {
                takersDue(one(100000, 1 << hour, 100000, hour), 0);
                takersDue(one(1, ALL, 1, hour), 0);
            }
        });
        sentences.says("A supporter can take a session if the strength is at least the load and the hour is in the set of hours.", () -> {
            takersDue(one(10, ALL, 10, 5), 0);
            takersDue(one(10, ALL, 11, 5), -1);
            takersDue(one(10, ALL, 9, 5), 0);
            takersDue(one(1, ALL, 100000, 5), -1);
            takersDue(one(10, 0, 10, 0), -1);
            for (int hour = 0; hour <= 23; hour++) {
                takersDue(one(10, ALL - (1 << hour), 10, hour), -1);
                takersDue(one(10, 1 << hour, 10, (hour + 1) % 24), -1);
            }
        });
        sentences.says("Each supporter takes at most one session, and each session is taken by at most one supporter.", () -> {
            takersDue(equal(1, 8), 0, -1, -1, -1, -1, -1, -1, -1);
            takersDue(equal(8, 1), 0);
            takersDue(equal(7, 8), 0, 1, 2, 3, 4, 5, 6, -1);
            takersDue(equal(8, 7), 0, 1, 2, 3, 4, 5, 6);
        });
        sentences.says("The assignment is the one that covers the most sessions; of several, consider the sequence of the"
                + " supporters of the sessions 0, 1, 2, and so on: the lexicographically first one, where a supporter comes before"
                + " none, and supporters come in the order of their numbers.", this::assignments);
    }

    private void assignments() {
        // The first session does without supporter 0, so that both are covered.
        takersDue(with(new int[][] {{50, 7}, {30, 1}}, new int[][] {{20, 0}, {40, 1}}), 1, 0);
        // A supporter comes before none: with one supporter for two sessions, the first one is covered.
        takersDue(with(new int[][] {{50, 3}}, new int[][] {{20, 0}, {40, 1}}), 0, -1);
        takersDue(with(new int[][] {{50, 2}}, new int[][] {{20, 0}, {40, 1}, {50, 1}}), -1, 0, -1);
        // Supporter 1 for session 0 covers as many, but 0 comes before 1.
        takersDue(with(new int[][] {{50, 3}, {50, 3}}, new int[][] {{20, 0}, {40, 1}}), 0, 1);
        takersDue(with(new int[][] {{50, 3}, {50, 1}, {50, 2}}, new int[][] {{20, 0}, {40, 1}}), 0, 2);
        // A chain: each of eight sessions but for the last gives up the supporter that comes first.
        TripodScale chain = new TripodScale();
        for (int i = 0; i < 8; i++) {
            chain.addSupporter(5, 1 << i | 1 << (i + 7) % 8);
        }
        for (int i = 0; i < 7; i++) {
            chain.addSession(5, i);
        }
        takersDue(chain, 0, 1, 2, 3, 4, 5, 6);
        chain.addSession(5, 0);
        takersDue(chain, 0, 2, 3, 4, 5, 6, 7, 1);
        // One supporter takes the first session that it can.
        takersDue(with(new int[][] {{9, 1}}, new int[][] {{9, 0}, {8, 0}, {7, 0}}), 0, -1, -1);
        takersDue(with(new int[][] {{9, 1}}, new int[][] {{10, 0}, {9, 0}, {8, 0}}), -1, 0, -1);
        takersDue(new TripodScale());
        takersDue(with(new int[0][], new int[][] {{1, 0}}), -1);
        takersDue(with(new int[][] {{1, 1}}, new int[0][]));
    }

    private void promise20() {
        sentences.section("Promise 20: addSupporter");
        sentences.says("Adds a supporter.", () -> {
            TripodScale t = Scales.withSessions(1);
            takersDue(t, -1);
            t.addSupporter(10, 1);
            takersDue(t, 0);
            check.due("what is removed", t.clearSessions(), 2);
        });
        sentences.says("Undoable.", () -> {
            probe.savesChange(TripodScale::new, t -> t.addSupporter(1, 0));
            probe.savesChange(() -> equal(7, 8), t -> t.addSupporter(100000, ALL));
        });
        sentences.says("`strength`: 1 to 100000", () -> {
            probe.range(1, 100000, Scales::withAll, (t, strength) -> t.addSupporter(strength, 5));
            takersDue(one(1, 1, 1, 0), 0);
            takersDue(one(1, 1, 2, 0), -1);
            takersDue(one(100000, 1, 100000, 0), 0);
            takersDue(one(99999, 1, 100000, 0), -1);
        });
        sentences.says("`hours`: bit set of hours, 0 to 16777215", () -> {
            probe.range(0, 16777215, Scales::withAll, (t, hours) -> t.addSupporter(5, hours));
            takersDue(one(5, 16777215, 5, 0), 0);
            takersDue(one(5, 16777215, 5, 23), 0);
            takersDue(one(5, 8388608, 5, 23), 0);
            takersDue(one(5, 8388607, 5, 23), -1);
            takersDue(one(5, 0, 5, 0), -1);
        });
        sentences.says("Returns the number of the supporter.", () -> {
            TripodScale t = Scales.withSessions(3);
            for (int i = 0; i < 8; i++) {
                check.due("addSupporter", t.addSupporter(5, 5), i);
            }
            t.undo();
            check.due("after undo", t.addSupporter(5, 5), 7);
            t.clearSessions();
            check.due("after clearSessions", t.addSupporter(5, 5), 0);
        });
        sentences.says("Throws `IllegalArgumentException` if an argument is out of range", () -> {
            probe.refuses("strength 0", Probe.ARGUMENT, Scales::withAll, t -> t.addSupporter(0, 5));
            probe.refuses("strength 100001", Probe.ARGUMENT, Scales::withAll, t -> t.addSupporter(100001, 5));
            probe.refuses("hours -1", Probe.ARGUMENT, Scales::withAll, t -> t.addSupporter(5, -1));
            probe.refuses("hours 2^24", Probe.ARGUMENT, Scales::withAll, t -> t.addSupporter(5, 16777216));
        });
        sentences.says("Throws `IllegalStateException` if there are 8 supporters", () -> {
            probe.refuses("with 8", Probe.STATE, () -> Scales.withSupporters(8), t -> t.addSupporter(1, 0));
            probe.refuses("with 8 and 8 sessions", Probe.STATE, Scales::full, t -> t.addSupporter(5, 5));
            probe.takes("with 7", () -> Scales.withSupporters(7), t -> t.addSupporter(5, 5));
            probe.takes("with 8 sessions", () -> Scales.withSessions(8), t -> t.addSupporter(5, 5));
            probe.takes("after an undo", () -> Scales.withSupporters(8), t -> t.undo() + t.addSupporter(5, 5));
            probe.takes("after clearSessions", Scales::full, t -> t.clearSessions() + t.addSupporter(5, 5));
        });
    }

    private void promise21() {
        sentences.section("Promise 21: addSession");
        sentences.says("Adds a session.", () -> {
            TripodScale t = Scales.withSupporters(1);
            takersDue(t);
            t.addSession(10, 0);
            takersDue(t, 0);
            check.due("what is removed", t.clearSessions(), 2);
        });
        sentences.says("Undoable.", () -> {
            probe.savesChange(TripodScale::new, t -> t.addSession(1, 0));
            probe.savesChange(() -> equal(8, 7), t -> t.addSession(100000, 23));
        });
        sentences.says("`load`: 1 to 100000", () -> {
            probe.range(1, 100000, Scales::withAll, (t, load) -> t.addSession(load, 5));
            takersDue(one(1, 1, 1, 0), 0);
            takersDue(one(100000, 1, 100000, 0), 0);
            takersDue(one(100000, 1, 1, 0), 0);
        });
        sentences.says("`hour`: 0 to 23", () -> {
            probe.range(0, 23, Scales::withAll, (t, hour) -> t.addSession(5, hour));
            takersDue(one(5, 1, 5, 0), 0);
            takersDue(one(5, 1 << 23, 5, 23), 0);
        });
        sentences.says("Returns the number of the session.", () -> {
            TripodScale t = Scales.withSupporters(3);
            for (int i = 0; i < 8; i++) {
                check.due("addSession", t.addSession(5, 5), i);
            }
            t.undo();
            check.due("after undo", t.addSession(5, 5), 7);
            t.clearSessions();
            check.due("after clearSessions", t.addSession(5, 5), 0);
        });
        sentences.says("Throws `IllegalArgumentException` if an argument is out of range", () -> {
            probe.refuses("load 0", Probe.ARGUMENT, Scales::withAll, t -> t.addSession(0, 5));
            probe.refuses("load 100001", Probe.ARGUMENT, Scales::withAll, t -> t.addSession(100001, 5));
            probe.refuses("hour -1", Probe.ARGUMENT, Scales::withAll, t -> t.addSession(5, -1));
            probe.refuses("hour 24", Probe.ARGUMENT, Scales::withAll, t -> t.addSession(5, 24));
        });
        sentences.says("Throws `IllegalStateException` if there are 8 sessions", () -> {
            probe.refuses("with 8", Probe.STATE, () -> Scales.withSessions(8), t -> t.addSession(1, 0));
            probe.refuses("with 8 and 8 supporters", Probe.STATE, Scales::full, t -> t.addSession(5, 5));
            probe.takes("with 7", () -> Scales.withSessions(7), t -> t.addSession(5, 5));
            probe.takes("with 8 supporters", () -> Scales.withSupporters(8), t -> t.addSession(5, 5));
            probe.takes("after an undo", () -> Scales.withSessions(8), t -> t.undo() + t.addSession(5, 5));
            probe.takes("after clearSessions", Scales::full, t -> t.clearSessions() + t.addSession(5, 5));
        });
    }

    private void promise22() {
        sentences.section("Promise 22: clearSessions");
        sentences.says("Removes all supporters and all sessions.", () -> {
            TripodScale t = equal(8, 8);
            t.clearSessions();
            takersDue(t);
            check.due("the first session", t.addSession(1, 5), 0);
            takersDue(t, -1);
            check.due("the first supporter", t.addSupporter(1, 0), 0);
            takersDue(t, -1);
            TripodScale onlySupporters = Scales.withSupporters(8);
            onlySupporters.clearSessions();
            onlySupporters.addSession(1, 1);
            takersDue(onlySupporters, -1);
        });
        sentences.says("Undoable.", () -> {
            probe.savesChange(() -> Scales.withSupporters(1), t -> t.clearSessions());
            probe.savesChange(() -> Scales.withSessions(1), t -> t.clearSessions());
            probe.savesChange(Scales::full, t -> t.clearSessions());
            probe.saves(TripodScale::new, t -> t.clearSessions());
        });
        sentences.says("Returns the number of supporters plus the number of sessions that were removed.", () -> {
            check.due("of none", new TripodScale().clearSessions(), 0);
            check.due("of supporters alone", Scales.withSupporters(8).clearSessions(), 8);
            check.due("of sessions alone", Scales.withSessions(8).clearSessions(), 8);
            check.due("of all", equal(8, 8).clearSessions(), 16);
            check.due("of 3 and 1", equal(3, 1).clearSessions(), 4);
            TripodScale twice = equal(3, 1);
            twice.clearSessions();
            check.due("once more", twice.clearSessions(), 0);
        });
    }

    private void promise23() {
        sentences.section("Promise 23: covered");
        sentences.says("Returns the number of sessions that the assignment covers.", () -> {
            check.due("where the first choice would block", with(new int[][] {{50, 7}, {30, 1}},
                    new int[][] {{20, 0}, {40, 1}}).covered(), 2);
            TripodScale fewer = equal(2, 3);
            check.due("of two for three", fewer.covered(), 2);
            fewer.undo();
            fewer.undo();
            check.due("of two for one, after undos", fewer.covered(), 1);
            check.due("of one for three", with(new int[][] {{9, 1}}, new int[][] {{9, 0}, {9, 0}, {9, 0}}).covered(), 1);
        });
        sentences.says("Returns the number of sessions.", () -> {
            check.due("of nothing", new TripodScale().covered(), 0);
            check.due("without supporters", Scales.withSessions(8).covered(), 0);
            check.due("without sessions", Scales.withSupporters(8).covered(), 0);
            check.due("of all", equal(8, 8).covered(), 8);
            check.due("of seven supporters", equal(7, 8).covered(), 7);
            check.due("of seven sessions", equal(8, 7).covered(), 7);
            check.due("of none that fits", one(9, ALL, 10, 0).covered(), 0);
        });
    }

    private void promise24() {
        sentences.section("Promise 24: supporterOf");
        sentences.says("Returns the supporter of a session in the assignment.", () -> {
            takersDue(with(new int[][] {{50, 7}, {30, 1}}, new int[][] {{20, 0}, {40, 1}}), 1, 0);
            takersDue(equal(8, 8), 0, 1, 2, 3, 4, 5, 6, 7);
        });
        sentences.says("`session`: number of a session", () -> {
            probe.numbers(1, () -> Scales.withSessions(1), (t, session) -> t.supporterOf(session));
            probe.numbers(8, Scales::full, (t, session) -> t.supporterOf(session));
        });
        sentences.says("Returns the number of the supporter; NONE if the session is not covered.", () -> {
            TripodScale t = equal(1, 2);
            check.due("the first", t.supporterOf(0), 0);
            check.due("not covered", t.supporterOf(1), -1);
            check.due("the last", with(new int[][] {{1, 1}, {1, 1}, {1, 1}, {1, 1}, {1, 1}, {1, 1}, {1, 1}, {2, 1}},
                    new int[][] {{2, 0}}).supporterOf(0), 7);
            check.due("no supporters", Scales.withSessions(8).supporterOf(7), -1);
        });
        sentences.says("Throws `IndexOutOfBoundsException` if there is no such session", () -> {
            probe.refuses("of none", Probe.BOUNDS, TripodScale::new, t -> t.supporterOf(0));
            probe.refuses("of none, with supporters", Probe.BOUNDS, () -> Scales.withSupporters(8), t -> t.supporterOf(0));
            probe.refuses("session 8 of 8", Probe.BOUNDS, Scales::full, t -> t.supporterOf(8));
            probe.refuses("session 7 of 7", Probe.BOUNDS, () -> Scales.withSessions(7), t -> t.supporterOf(7));
            probe.refuses("session -1", Probe.BOUNDS, Scales::full, t -> t.supporterOf(-1));
        });
    }
}
