import java.math.BigInteger;
import java.util.ArrayList;
import java.util.LinkedHashMap;
import java.util.List;
import java.util.Map;

/** Promises 25 and 26, and what the document says of undo, exceptions, examples, and the number of calls. */
final class StateSentences {
    private static final Scales.Maker NEW = TripodScale::new;
    private static final Scales.Maker ALL = Scales::withAll;
    private static final Scales.Maker FULL = Scales::full;

    private final Check check;
    private final Probe probe;
    private final Sentences sentences;

    StateSentences(Check check, Probe probe, Sentences sentences) {
        this.check = check;
        this.probe = probe;
        this.sentences = sentences;
    }

    void ask() {
        sentences.section("What it is");
        sentences.says("An object is used for at most 512 calls after it has been made; what later calls answer is free.",
                this::manyCalls);
        sentences.section("Description");
        undoSentences();
        exceptions();
        examples();
        promise25();
        promise26();
    }

    /** Every method whose description says "undoable", with arguments that change the object of Scales.withAll. */
    private static Map<String, Probe.Act> undoables() {
        Map<String, Probe.Act> acts = new LinkedHashMap<>();
        acts.put("setCell", t -> t.setCell(1, 99, -1, 700));
        acts.put("place", t -> t.place(1, 2, 3));
        acts.put("lift", t -> t.lift(0));
        acts.put("setHypotheses", t -> t.setHypotheses(5));
        acts.put("setWeight", t -> t.setWeight(1, 77));
        acts.put("addTest", t -> t.addTest());
        acts.put("setChances", t -> t.setChances(0, 2, 9, 1));
        acts.put("observe", t -> t.observe(0, 1));
        acts.put("addSupporter", t -> t.addSupporter(100, 1));
        acts.put("addSession", t -> t.addSession(20, 0));
        acts.put("clearSessions", t -> t.clearSessions());
        return acts;
    }

    /** The undoable calls that can change nothing, on a new object with one test. */
    private static Map<String, Probe.Act> idle() {
        Map<String, Probe.Act> acts = new LinkedHashMap<>();
        acts.put("setCell", t -> t.setCell(2, 0, 100, 5000));
        acts.put("setHypotheses", t -> t.setHypotheses(2));
        acts.put("setWeight", t -> t.setWeight(1, 1));
        acts.put("setChances", t -> t.setChances(0, 0, 0, 0));
        acts.put("observe", t -> t.observe(0, 2));
        acts.put("clearSessions", t -> t.clearSessions());
        return acts;
    }

    private static Map<String, Probe.Act> questions() {
        Map<String, Probe.Act> acts = new LinkedHashMap<>();
        acts.put("load", t -> t.load(1, 0));
        acts.put("reading", t -> t.reading(2, 100));
        acts.put("isStable", t -> t.isStable() ? 1 : 0);
        acts.put("overloaded", t -> t.overloaded());
        acts.put("room", t -> t.room(10, 20));
        acts.put("odds", t -> t.odds(1, 1));
        acts.put("planValue", t -> t.planValue(3, 1));
        acts.put("planFirst", t -> t.planFirst(3));
        acts.put("tail", t -> t.tail(15, 7, 3));
        acts.put("fewestTrials", t -> t.fewestTrials(1, 9, 1000));
        acts.put("covered", t -> t.covered());
        acts.put("supporterOf", t -> t.supporterOf(0));
        acts.put("digest", t -> t.digest());
        return acts;
    }

    /** What an object answers, without its number of saved states. */
    private static List<Long> answers(TripodScale t) {
        List<Long> answers = new ArrayList<>();
        for (int cell = 0; cell < 3; cell++) {
            answers.add(t.load(cell, 0));
            answers.add(t.load(cell, 1));
            answers.add((long) t.reading(cell, 7));
        }
        for (int place = -100; place <= 100; place += 20) {
            answers.add((long) t.room(place, 10));
            answers.add((long) t.room(10, place));
        }
        answers.add((long) t.overloaded());
        answers.add(t.isStable() ? 1L : 0);
        answers.add((long) t.covered());
        for (int i = 0; i < 11; i++) {
            int number = i;
            answers.add(orMinus2(() -> t.odds(number, 0)));
            answers.add(orMinus2(() -> t.odds(number, 1)));
            answers.add(orMinus2(() -> t.supporterOf(number)));
        }
        for (int tests = 0; tests <= 2; tests++) {
            int depth = tests;
            answers.add(orMinus2(() -> t.planValue(depth, 0)));
            answers.add(orMinus2(() -> t.planFirst(depth)));
        }
        return answers;
    }

    private static long orMinus2(Check.Call call) {
        try {
            return call.answer();
        } catch (RuntimeException e) {
            return -2;
        }
    }

    private void manyCalls() {
        TripodScale objects = new TripodScale();
        for (int i = 0; i < 510; i += 2) {
            check.due("place, call " + i, objects.place(i % 100, 0, 5), 0);
            check.due("lift, call " + (i + 1), objects.lift(0), 5);
        }
        check.due("the call before the last", objects.place(100, 0, 9), 0);
        check.due("the last call", objects.load(1, 0), 9);
        TripodScale idle = new TripodScale();
        for (int i = 0; i < 511; i++) {
            check.due("clearSessions, call " + i, idle.clearSessions(), 0);
        }
        check.due("undo, the last call", idle.undo(), 3);
        TripodScale plans = Scales.full();
        long value = plans.planValue(3, 0);
        for (int i = 0; i < 350; i++) {
            check.due("planValue", plans.planValue(3, 0), value);
        }
        TripodScale swings = Scales.withChances(new int[] {9, 1}, new int[] {1, 9});
        for (int i = 0; i < 250; i++) {
            check.due("observe of outcome 0", swings.observe(0, 0), 0);
            check.due("observe of outcome 1", swings.observe(0, 1), 0);
        }
        check.fraction("the odds at the end", swings.odds(0, 0), swings.odds(0, 1), 1, 2);
        TripodScale undone = new TripodScale();
        for (int i = 0; i < 256; i++) {
            check.due("addTest", undone.addTest(), 0);
            check.due("undo", undone.undo(), 0);
        }
    }

    private void undoSentences() {
        sentences.says("Each successful call of a method whose description says \"undoable\" saves the state from before the call,"
                + " even if the call changes nothing; at most 4 states are saved, and the oldest is dropped first.", () -> {
            undoables().forEach((name, act) -> {
                check.due(name + " changes something", Probe.states(done(ALL, act)).get(0).equals(Probe.states(ALL.make()).get(0)), false);
                probe.saves(ALL, act);
            });
            idle().forEach((name, act) -> {
                check.due(name + " changes nothing", Probe.states(done(() -> Scales.withTests(1), act)).get(0)
                        .equals(Probe.states(Scales.withTests(1)).get(0)), true);
                check.due(name + " saves", done(() -> Scales.withTests(1), act).undo(), 1);
            });
            questions().forEach((name, act) ->
                    check.due(name + " saves nothing", Probe.states(done(ALL, act)).equals(Probe.states(ALL.make())), true));
            atMostFour();
        });
        sentences.says("The saved state contains everything.", () -> {
            for (Scales.Maker maker : new Scales.Maker[] {ALL, Scales::full, Scales::withGreatestWeight}) {
                backAfter("all at once", maker, t -> t.clearSessions() + t.setHypotheses(1) + t.setCell(1, 90, -90, 3)
                        + t.setWeight(0, 9));
                backAfter("other supporters and sessions", maker, t -> t.clearSessions() + t.addSupporter(99, 3)
                        + t.addSession(2, 1) + t.addSupporter(1, 2));
                backAfter("another test's chances", maker, t -> t.setChances(0, 0, 0, 10) + t.setChances(0, 1, 10, 0)
                        + t.setHypotheses(8) + t.setChances(0, 7, 5, 5));
                backAfter("other cells", maker, t -> t.setCell(0, -90, -80, 1) + t.setCell(1, 80, -90, 2)
                        + t.setCell(2, 70, 60, 3) + t.setCell(0, 1, 2, 4));
            }
            for (Scales.Maker maker : new Scales.Maker[] {ALL, Scales::full}) {
                backAfter("other objects", maker, t -> t.lift(0) + t.lift(1) + t.place(-100, -100, 1000) + t.place(100, 100, 1));
            }
            undoables().forEach((name, act) -> {
                TripodScale t = done(ALL, act);
                t.undo();
                check.due("the answers after the undo of " + name, answers(t).equals(answers(ALL.make())), true);
                check.due("weights, objects and numbers after the undo of " + name, taken(t).equals(taken(ALL.make())), true);
            });
        });
    }

    /** Four calls, which the undos take back one after the other. */
    private void backAfter(String what, Scales.Maker maker, Probe.Act calls) {
        TripodScale t = undone(done(maker, calls), 4);
        check.due("the answers after " + what + " and four undos", answers(t).equals(answers(maker.make())), true);
        check.due("the state after " + what + " and four undos", Probe.states(t).get(0).equals(Probe.states(maker.make()).get(0)), true);
        check.due("what was told by the changing calls too", taken(undone(done(maker, calls), 4)).equals(taken(maker.make())), true);
    }

    private static TripodScale done(Scales.Maker maker, Probe.Act act) {
        TripodScale t = maker.make();
        act.on(t);
        return t;
    }

    /** What is told only by calls that change the object: capacities, weights, the numbers of all things. */
    private static List<Long> taken(TripodScale t) {
        List<Long> answers = new ArrayList<>();
        answers.add(orMinus2(() -> t.setCell(0, 5, -50, 1)));
        answers.add(orMinus2(() -> t.setCell(1, 60, 1, 1)));
        answers.add(orMinus2(() -> t.setCell(2, 2, 60, 1)));
        answers.add(orMinus2(() -> t.setWeight(0, 1)));
        answers.add(orMinus2(() -> t.setWeight(1, 1)));
        answers.add(orMinus2(() -> t.addTest()));
        answers.add(orMinus2(() -> t.observe(0, 2)));
        answers.add(orMinus2(() -> t.setHypotheses(4)));
        answers.add(orMinus2(() -> t.addSupporter(1, 1)));
        answers.add(orMinus2(() -> t.addSession(1, 1)));
        answers.add(orMinus2(() -> t.place(1, 1, 1)));
        answers.add(orMinus2(() -> t.lift(0)));
        answers.add(orMinus2(() -> t.lift(0)));
        return answers;
    }

    private void atMostFour() {
        for (int calls = 0; calls <= 9; calls++) {
            TripodScale t = new TripodScale();
            for (int i = 0; i < calls; i++) {
                t.setCell(0, 0, 0, 100 + i);
            }
            int kept = Math.min(calls, 4);
            for (int i = 1; i <= kept; i++) {
                check.due("undo " + i + " of " + calls + " calls", t.undo(), kept - i);
                check.due("the capacity after it", t.room(0, 0), calls == i ? 5000 : 100 + calls - i - 1);
            }
            check.badState("one undo more", t, t::undo);
        }
    }

    private void exceptions() {
        sentences.says("A call that throws an exception changes nothing.", () -> {
            for (Scales.Maker maker : new Scales.Maker[] {NEW, ALL, FULL}) {
                refusals().forEach((name, act) -> {
                    TripodScale t = maker.make();
                    check.due(name + " throws", orMinus2(() -> act.on(t)), -2);
                    check.due(name + " changes no answer", answers(t).equals(answers(maker.make())), true);
                    check.due(name + " changes no state", Probe.states(t).equals(Probe.states(maker.make())), true);
                });
            }
            fullRefusals().forEach((name, act) -> {
                TripodScale t = FULL.make();
                check.due(name + " throws", orMinus2(() -> act.on(t)), -2);
                check.due(name + " changes no answer", answers(t).equals(answers(FULL.make())), true);
                check.due(name + " changes no state", Probe.states(t).equals(Probe.states(FULL.make())), true);
            });
            TripodScale t = Scales.withGreatestWeight();
            t.setChances(0, 0, 10, 0);
            check.thrown("a weight of 10^16", t, () -> t.observe(0, 0), Probe.ARITHMETIC);
            check.due("the weight afterwards", t.odds(0, 0), Scales.GREATEST);
            TripodScale only = Scales.withWeights(0, 5);
            check.badState("all weights would be 0", only, () -> only.setWeight(1, 0));
            check.due("the weight afterwards", only.setWeight(1, 6), 5);
        });
        sentences.says("If several exceptions apply, the one that is listed first is thrown.", this::listedFirst);
    }

    /** Refused in any state. */
    private static Map<String, Probe.Act> refusals() {
        Map<String, Probe.Act> acts = new LinkedHashMap<>();
        acts.put("setCell, no cell", t -> t.setCell(3, 1, 2, 3));
        acts.put("setCell, wrong x", t -> t.setCell(0, 101, 2, 3));
        acts.put("setCell, wrong y", t -> t.setCell(0, 1, -101, 3));
        acts.put("setCell, wrong capacity", t -> t.setCell(0, 1, 2, 0));
        acts.put("setCell, one line", t -> t.setCell(0, 100, 0, 3));
        acts.put("place, wrong x", t -> t.place(-101, 2, 3));
        acts.put("place, wrong y", t -> t.place(1, 101, 3));
        acts.put("place, wrong weight", t -> t.place(1, 2, 1001));
        acts.put("lift", t -> t.lift(8));
        acts.put("load", t -> t.load(0, 2));
        acts.put("reading", t -> t.reading(0, 0));
        acts.put("room", t -> t.room(0, 101));
        acts.put("setHypotheses", t -> t.setHypotheses(9));
        acts.put("setWeight, no hypothesis", t -> t.setWeight(8, 5));
        acts.put("setWeight, wrong weight", t -> t.setWeight(0, -1));
        acts.put("setChances, no test", t -> t.setChances(10, 0, 1, 1));
        acts.put("setChances, wrong chance", t -> t.setChances(0, 0, 11, 0));
        acts.put("observe, no test", t -> t.observe(10, 0));
        acts.put("observe, wrong outcome", t -> t.observe(0, 3));
        acts.put("odds", t -> t.odds(0, 2));
        acts.put("planValue", t -> t.planValue(4, 0));
        acts.put("planFirst", t -> t.planFirst(0));
        acts.put("tail", t -> t.tail(16, 0, 0));
        acts.put("fewestTrials", t -> t.fewestTrials(0, 0, 0));
        acts.put("addSupporter", t -> t.addSupporter(0, 0));
        acts.put("addSession", t -> t.addSession(1, 24));
        acts.put("supporterOf", t -> t.supporterOf(8));
        return acts;
    }

    private static Map<String, Probe.Act> fullRefusals() {
        Map<String, Probe.Act> acts = new LinkedHashMap<>();
        acts.put("a ninth object", t -> t.place(1, 2, 3));
        acts.put("an eleventh test", t -> t.addTest());
        acts.put("a ninth supporter", t -> t.addSupporter(1, 1));
        acts.put("a ninth session", t -> t.addSession(1, 1));
        acts.put("an impossible outcome", t -> t.observe(0, 0));
        return acts;
    }

    private void listedFirst() {
        probe.refuses("setCell(3, 101, ..)", Probe.BOUNDS, ALL, t -> t.setCell(3, 101, 0, 1));
        probe.refuses("setCell(-1, .., -101, ..)", Probe.BOUNDS, ALL, t -> t.setCell(-1, 0, -101, 1));
        probe.refuses("setCell(3, .., 0)", Probe.BOUNDS, ALL, t -> t.setCell(3, 0, 0, 0));
        probe.refuses("place(101, ..) of a ninth", Probe.ARGUMENT, FULL, t -> t.place(101, 0, 1));
        probe.refuses("place(.., -101, ..) of a ninth", Probe.ARGUMENT, FULL, t -> t.place(0, -101, 1));
        probe.refuses("place(.., 0) of a ninth", Probe.ARGUMENT, FULL, t -> t.place(0, 0, 0));
        probe.refuses("load(3, 2)", Probe.BOUNDS, ALL, t -> t.load(3, 2));
        probe.refuses("load(-1, -1)", Probe.BOUNDS, ALL, t -> t.load(-1, -1));
        probe.refuses("reading(3, 0)", Probe.BOUNDS, ALL, t -> t.reading(3, 0));
        probe.refuses("reading(-1, 101)", Probe.BOUNDS, ALL, t -> t.reading(-1, 101));
        probe.refuses("setWeight(2, -1)", Probe.BOUNDS, NEW, t -> t.setWeight(2, -1));
        probe.refuses("setWeight(-1, 1000001)", Probe.BOUNDS, NEW, t -> t.setWeight(-1, 1000001));
        probe.refuses("setWeight(1, 0) of one hypothesis", Probe.BOUNDS, () -> Scales.withHypotheses(1), t -> t.setWeight(1, 0));
        probe.refuses("setWeight(0, -1) of one hypothesis", Probe.ARGUMENT, () -> Scales.withHypotheses(1), t -> t.setWeight(0, -1));
        probe.refuses("setChances without tests", Probe.BOUNDS, NEW, t -> t.setChances(0, 0, 11, 0));
        probe.refuses("setChances of hypothesis 8", Probe.BOUNDS, FULL, t -> t.setChances(0, 8, 0, 11));
        probe.refuses("setChances of hypothesis -1", Probe.BOUNDS, FULL, t -> t.setChances(0, -1, -1, 0));
        probe.refuses("observe(0, 3) without tests", Probe.BOUNDS, NEW, t -> t.observe(0, 3));
        probe.refuses("observe(10, -1)", Probe.BOUNDS, FULL, t -> t.observe(10, -1));
        probe.refuses("odds(2, 2)", Probe.BOUNDS, NEW, t -> t.odds(2, 2));
        probe.refuses("odds(-1, -1)", Probe.BOUNDS, NEW, t -> t.odds(-1, -1));
        probe.refuses("planValue(4, 0) without tests", Probe.ARGUMENT, NEW, t -> t.planValue(4, 0));
        probe.refuses("planValue(1, 2) without tests", Probe.ARGUMENT, NEW, t -> t.planValue(1, 2));
        probe.refuses("planValue(3, -1) without tests", Probe.ARGUMENT, NEW, t -> t.planValue(3, -1));
        probe.refuses("planFirst(0) without tests", Probe.ARGUMENT, NEW, t -> t.planFirst(0));
        probe.refuses("planFirst(4) without tests", Probe.ARGUMENT, NEW, t -> t.planFirst(4));
        probe.refuses("addSupporter(0, ..) of a ninth", Probe.ARGUMENT, FULL, t -> t.addSupporter(0, 1));
        probe.refuses("addSupporter(.., -1) of a ninth", Probe.ARGUMENT, FULL, t -> t.addSupporter(1, -1));
        probe.refuses("addSession(0, ..) of a ninth", Probe.ARGUMENT, FULL, t -> t.addSession(0, 1));
        probe.refuses("addSession(.., 24) of a ninth", Probe.ARGUMENT, FULL, t -> t.addSession(1, 24));
    }

    private void examples() {
        sentences.says("1. Loads of the cells, and the room at a place: place(50, 50, 300) = 0; load(0, 0) = 0; load(1, 0) = 150;"
                + " place(20, 30, 7) = 1; load(0, 0) = 7; load(0, 1) = 2; reading(0, 10) = 0; room(0, 0) = 4996.", () -> {
            TripodScale t = new TripodScale();
            check.due("place", t.place(50, 50, 300), 0);
            check.due("load", t.load(0, 0), 0);
            check.due("load", t.load(1, 0), 150);
            check.due("place", t.place(20, 30, 7), 1);
            check.due("load", t.load(0, 0), 7);
            check.due("load", t.load(0, 1), 2);
            check.due("reading", t.reading(0, 10), 0);
            check.due("room", t.room(0, 0), 4996);
        });
        sentences.says("2. A test, its plan and an outcome: addTest() = 0; setChances(0, 0, 7, 2) = 1; setChances(0, 1, 1, 4) = 5;"
                + " planValue(1, 0) = 4; planValue(1, 1) = 5; planFirst(1) = 0; observe(0, 0) = 0; odds(1, 0) = 1; odds(1, 1) = 8.", () -> {
            TripodScale t = new TripodScale();
            check.due("addTest", t.addTest(), 0);
            check.due("setChances", t.setChances(0, 0, 7, 2), 1);
            check.due("setChances", t.setChances(0, 1, 1, 4), 5);
            check.due("planValue", t.planValue(1, 0), 4);
            check.due("planValue", t.planValue(1, 1), 5);
            check.due("planFirst", t.planFirst(1), 0);
            check.due("observe", t.observe(0, 0), 0);
            check.due("odds", t.odds(1, 0), 1);
            check.due("odds", t.odds(1, 1), 8);
        });
        sentences.says("3. Tails and trial plans: tail(3, 2, 5) = 500; fewestTrials(1, 9, 10) = 101; fewestTrials(5, 5, 3) = -1.", () -> {
            check.due("tail", new TripodScale().tail(3, 2, 5), 500);
            check.due("fewestTrials", new TripodScale().fewestTrials(1, 9, 10), 101);
            check.due("fewestTrials", new TripodScale().fewestTrials(5, 5, 3), -1);
        });
        sentences.says("4. Supporters and sessions: addSupporter(50, 7) = 0; addSupporter(30, 1) = 1; addSession(40, 0) = 0;"
                + " addSession(20, 0) = 1; covered() = 2; supporterOf(0) = 0; supporterOf(1) = 1.", () -> {
            TripodScale t = new TripodScale();
            check.due("addSupporter", t.addSupporter(50, 7), 0);
            check.due("addSupporter", t.addSupporter(30, 1), 1);
            check.due("addSession", t.addSession(40, 0), 0);
            check.due("addSession", t.addSession(20, 0), 1);
            check.due("covered", t.covered(), 2);
            check.due("supporterOf", t.supporterOf(0), 0);
            check.due("supporterOf", t.supporterOf(1), 1);
        });
        sentences.says("5. An unstable platform, and exceptions: place(-20, -20, 500) = 0; isStable() = false; room(0, 0) = -1;"
                + " setCell(0, 50, 50, 1) = throws IllegalArgumentException; lift(1) = throws IndexOutOfBoundsException.", () -> {
            TripodScale t = new TripodScale();
            check.due("place", t.place(-20, -20, 500), 0);
            check.due("isStable", t.isStable(), false);
            check.due("room", t.room(0, 0), -1);
            check.badArgument("setCell", t, () -> t.setCell(0, 50, 50, 1));
            check.outOfBounds("lift", t, () -> t.lift(1));
        });
        sentences.says("`NONE = -1`: There is no such thing.", () -> check.due("NONE", TripodScale.NONE, -1));
    }

    private void promise25() {
        sentences.section("Promise 25: undo");
        sentences.says("Restores the most recently saved state and removes it from the saved states.", () -> {
            TripodScale t = Scales.withObjects(3);
            t.undo();
            check.due("the sum of the weights without the third object", t.load(0, 0) * 100 / t.load(0, 1)
                    + t.load(1, 0) * 100 / t.load(1, 1) + t.load(2, 0) * 100 / t.load(2, 1), 2100);
            t.undo();
            t.undo();
            check.outOfBounds("no object is left", t, () -> t.lift(0));
            TripodScale branch = Scales.withObjects(3);
            branch.undo();
            branch.place(0, 0, 500);
            branch.undo();
            check.due("undo of what came after an undo", branch.place(0, 0, 1), 2);
            branch.undo();
            check.due("the states before it are still there", branch.undo(), 1);
            check.due("the object before it", branch.lift(0), 10);
        });
        sentences.says("Returns the number of saved states that remain.", () -> {
            for (int remain = 3; remain >= 0; remain--) {
                TripodScale t = Scales.full();
                for (int i = 3; i > remain; i--) {
                    t.undo();
                }
                check.due("undo", t.undo(), remain);
            }
            check.due("undo of one", Scales.withObjects(1).undo(), 0);
        });
        sentences.says("Throws `IllegalStateException` if there is no saved state", () -> {
            probe.refuses("on a new object", Probe.STATE, NEW, t -> t.undo());
            probe.refuses("after an undo of all", Probe.STATE, () -> undone(Scales.withObjects(2), 2), t -> t.undo());
            probe.refuses("after four undos", Probe.STATE, () -> undone(Scales.full(), 4), t -> t.undo());
            probe.refuses("after questions", Probe.STATE, StateSentences::asked, t -> t.undo());
            probe.refuses("after a refused call", Probe.STATE, StateSentences::refused, t -> t.undo());
        });
    }

    private static TripodScale undone(TripodScale t, int times) {
        for (int i = 0; i < times; i++) {
            t.undo();
        }
        return t;
    }

    private static TripodScale asked() {
        TripodScale t = undone(Scales.withAll(), 4);
        questions().values().forEach(act -> act.on(t));
        return t;
    }

    private static TripodScale refused() {
        TripodScale t = new TripodScale();
        refusals().values().forEach(act -> orMinus2(() -> act.on(t)));
        return t;
    }

    private static void addAll(List<Long> values, long... more) {
        for (long value : more) {
            values.add(value);
        }
    }

    private static List<Long> list(long... values) {
        List<Long> list = new ArrayList<>();
        addAll(list, values);
        return list;
    }

    /** Without the bounds of long, of which the digest keeps the lowest 64 bits. */
    private static BigInteger unbounded(List<Long> values) {
        BigInteger h = BigInteger.valueOf(2801);
        for (long value : values) {
            h = h.multiply(BigInteger.valueOf(31)).add(BigInteger.valueOf(value));
        }
        return h;
    }

    private void digestDue(String what, TripodScale t, List<Long> values) {
        check.due("digest of " + what, t.digest(), unbounded(values).longValue());
    }

    /** The values of Scales.full. */
    private static List<Long> fullValues() {
        List<Long> values = list(0, 0, 5000, 312, 5, 100, 0, 5000, 63, 5, 0, 100, 5000, 33, 1, 1, 0, 8);
        for (int i = 0; i < 8; i++) {
            addAll(values, 3 * i, 50 - 5 * i, 10 + i);
        }
        addAll(values, 8, 1, 1, 1, 1, 1, 1, 1, 1, 10);
        for (int test = 0; test < 10; test++) {
            for (int i = 0; i < 8; i++) {
                int chance1 = (i + 1) % (11 - test);
                addAll(values, test, chance1, 10 - test - chance1);
            }
        }
        values.add(8L);
        for (int i = 0; i < 8; i++) {
            addAll(values, 100 + i, Scales.ALL_HOURS - (1 << i));
        }
        values.add(8L);
        int[] takers = {5, 4, 3, 2, 1, 0, 6, 7};
        for (int i = 0; i < 8; i++) {
            addAll(values, 105 - i, 23 - i, takers[i]);
        }
        values.add(4L);
        return values;
    }

    private void promise26() {
        sentences.section("Promise 26: digest");
        sentences.says("Returns a hash of the state.", () -> {
            check.due("asked twice", ALL.make().digest(), ALL.make().digest());
            questions().forEach((name, act) -> check.due("after " + name, done(ALL, act).digest(), ALL.make().digest()));
            TripodScale other = new TripodScale();
            other.setCell(0, 1, 1, 1);
            other.setCell(0, 0, 0, 5000);
            other.addSupporter(7, 7);
            other.clearSessions();
            TripodScale idle = new TripodScale();
            for (int i = 0; i < 4; i++) {
                idle.clearSessions();
            }
            check.due("the same state by other calls", other.digest(), idle.digest());
        });
        sentences.says("Start with h = 2801 and, for each of the following values v, set h = 31 * h + v: for each cell its x, y and"
                + " capacity, and both parts of its load; 1 or 0 for whether the platform is stable; the set of overloaded cells;"
                + " the number of objects and, for each object, its x, y and weight; the number of hypotheses and the weight of each;"
                + " the number of tests and, for each test and then each hypothesis, the chances of the outcomes 0, 1 and 2; the"
                + " number of supporters and, for each supporter, strength and hours; the number of sessions and, for each session,"
                + " load, hour and supporterOf(); the number of saved states.", this::digestValues);
        sentences.says("Returns the hash, with the overflow of long arithmetic ignored.", () -> {
            List<Long> values = fullValues();
            check.due("the hash without bounds is beyond long", unbounded(values).bitLength() > 1000, true);
            digestDue("as much as there can be", FULL.make(), values);
            boolean negative = false;
            boolean positive = false;
            for (int i = 0; i <= 8; i++) {
                long digest = Scales.withObjects(i).digest();
                negative |= digest < 0;
                positive |= digest > 0;
            }
            check.due("hashes of both signs come to be", negative && positive, true);
        });
    }

    private void digestValues() {
        digestDue("a new object", new TripodScale(), list(0, 0, 5000, 0, 1, 100, 0, 5000, 0, 1, 0, 100, 5000, 0, 1,
                1, 0, 0, 2, 1, 1, 0, 0, 0, 0));
        digestDue("as much as there can be", FULL.make(), fullValues());
        TripodScale t = new TripodScale();
        t.setCell(2, -100, 100, 1);
        t.place(-100, 50, 1000);
        digestDue("an unstable platform with cells overloaded", t, list(0, 0, 5000, 1000, 1, 100, 0, 5000, -500, 1,
                -100, 100, 1, 500, 1, 0, 4, 1, -100, 50, 1000, 2, 1, 1, 0, 0, 0, 2));
        TripodScale weights = Scales.withGreatestWeight();
        digestDue("great weights", weights, list(0, 0, 5000, 0, 1, 100, 0, 5000, 0, 1, 0, 100, 5000, 0, 1,
                1, 0, 0, 2, Scales.GREATEST, 1, 1, 9, 1, 0, 1, 1, 8, 0, 0, 4));
        TripodScale sessions = Scales.withSessions(1);
        digestDue("a session without supporter", sessions, list(0, 0, 5000, 0, 1, 100, 0, 5000, 0, 1, 0, 100, 5000, 0, 1,
                1, 0, 0, 2, 1, 1, 0, 0, 1, 10, 0, -1, 1));
        long first = new TripodScale().digest();
        TripodScale saved = new TripodScale();
        for (int i = 1; i <= 6; i++) {
            saved.clearSessions();
            check.due("digest with saved states", saved.digest(), first + Math.min(i, 4));
        }
    }
}
