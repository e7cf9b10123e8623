/** Promises 1 to 9, and what the description says of the platform. */
final class PlatformSentences {
    private static final int[][] CORNERS = {{-100, -100}, {-100, 100}, {100, -100}, {100, 100}};
    // Cells with 39999 for twice the area of their triangle; places that load cell 2 with -1 and 1 of 39999 parts.
    private static final int[][] WIDE = {{-100, -100}, {100, -99}, {-99, 100}};
    private static final int[] BARELY_OUTSIDE = {-99, -100};
    private static final int[] BARELY_INSIDE = {99, -99};
    // Cells with 1 for twice the area, so that the loads are as great as they can be.
    private static final int[][] FLAT = {{-100, -100}, {100, 99}, {99, 98}};

    private final Check check;
    private final Probe probe;
    private final Sentences sentences;

    PlatformSentences(Check check, Probe probe, Sentences sentences) {
        this.check = check;
        this.probe = probe;
        this.sentences = sentences;
    }

    void ask() {
        description();
        promise1();
        promise2();
        promise3();
        promise4();
        promise5();
        promise6();
        promise7();
        promise8();
        promise9();
    }

    /** On the way no three places may lie on one line, so a cell may have to stand aside first. */
    private static TripodScale withCells(int[][] cells, int capacity) {
        for (int aside = 0; aside < 100; aside++) {
            TripodScale t = new TripodScale();
            try {
                t.setCell(0, -aside, -83, 1);
                t.setCell(1, 71, aside, 1);
                for (int cell = 2; cell >= 0; cell--) {
                    t.setCell(cell, cells[cell][0], cells[cell][1], capacity);
                }
                return t;
            } catch (IllegalArgumentException e) {
                continue;
            }
        }
        throw new IllegalStateException("no way to these cells");
    }

    private static TripodScale barelyUnstable() {
        TripodScale t = withCells(WIDE, 100000);
        t.place(BARELY_OUTSIDE[0], BARELY_OUTSIDE[1], 1);
        return t;
    }

    private static TripodScale justStable() {
        TripodScale t = barelyUnstable();
        t.place(BARELY_INSIDE[0], BARELY_INSIDE[1], 1);
        return t;
    }

    /** Cell 2 has just its capacity of 1. */
    private static TripodScale justNotOverloaded() {
        TripodScale t = withCells(WIDE, 100000);
        t.setCell(2, WIDE[2][0], WIDE[2][1], 1);
        t.place(WIDE[2][0], WIDE[2][1], 1);
        return t;
    }

    private static TripodScale barelyOverloaded() {
        TripodScale t = justNotOverloaded();
        t.place(BARELY_INSIDE[0], BARELY_INSIDE[1], 1);
        return t;
    }

    private static TripodScale heaviest(int[][] cells, int x, int y) {
        TripodScale t = withCells(cells, 100000);
        for (int i = 0; i < 8; i++) {
            t.place(x, y, 1000);
        }
        return t;
    }

    private void loadDue(TripodScale t, int cell, long numerator, long denominator) {
        check.fraction("load(" + cell + ")", t.load(cell, 0), t.load(cell, 1), numerator, denominator);
    }

    private void loadsDue(TripodScale t, long load0, long load1, long load2) {
        loadDue(t, 0, load0, 1);
        loadDue(t, 1, load1, 1);
        loadDue(t, 2, load2, 1);
    }

    private void description() {
        sentences.section("Description");
        sentences.says("Three load cells, 0 to 2, stand at places with whole coordinates x and y, each -100 to 100, that do"
                + " not lie on one line; initially they stand at (0, 0), (100, 0) and (0, 100).", this::placesOfCells);
        sentences.says("Each cell has a capacity, 1 to 100000, initially 5000.", this::capacities);
        sentences.says("At most 8 objects lie on the platform, numbered from 0; an object has a place (coordinates -100 to"
                + " 100, inside the triangle of the cells or not) and a weight, 1 to 1000.", this::objects);
        sentences.says("The loads of the three cells are the three numbers whose sum is the sum of all weights and whose"
                + " moments agree with those of the objects: the sum of load * x over the cells equals the sum of weight * x"
                + " over the objects, and the same holds for y.", this::moments);
        sentences.says("(They are fractions and can be negative.)", () -> {
            TripodScale t = barelyUnstable();
            loadDue(t, 0, 200, 201);
            loadDue(t, 1, 200, 39999);
            loadDue(t, 2, -1, 39999);
        });
        sentences.says("The platform is stable if no load is negative.", () -> {
            check.due("no load at all", new TripodScale().isStable(), true);
            check.due("a load of -1/39999", barelyUnstable().isStable(), false);
            check.due("a load of 0", justStable().isStable(), true);
        });
        sentences.says("A cell is overloaded if its load is greater than its capacity.", () -> {
            check.due("the load is the capacity", justNotOverloaded().overloaded(), 0);
            check.due("the load is greater by 1/39999", barelyOverloaded().overloaded(), 4);
        });
    }

    /** By the three lines on which the two other cells of a new object lie. */
    private static boolean mayStand(int cell, int x, int y) {
        boolean onLine = cell == 0 ? x + y == 100 : cell == 1 ? x == 0 : y == 0;
        return !onLine && Math.abs(x) <= 100 && Math.abs(y) <= 100;
    }

    private void placesOfCells() {
        loadsDue(placed(0, 0), 1, 0, 0);
        loadsDue(placed(100, 0), 0, 1, 0);
        loadsDue(placed(0, 100), 0, 0, 1);
        for (int cell = 0; cell < 3; cell++) {
            for (int x = -101; x <= 101; x++) {
                column(cell, x);
            }
        }
        Scales.Maker slanted = () -> withCells(WIDE, 1);
        for (int cell = 0; cell < 3; cell++) {
            int[] other = WIDE[(cell + 1) % 3];
            int fixed = cell;
            probe.refuses("two cells at one place", Probe.ARGUMENT, slanted, t -> t.setCell(fixed, other[0], other[1], 1));
        }
    }

    private static TripodScale placed(int x, int y) {
        TripodScale t = new TripodScale();
        t.place(x, y, 1);
        return t;
    }

    private void column(int cell, int x) {
        TripodScale t = new TripodScale();
        for (int y = -101; y <= 101; y++) {
            boolean taken = true;
            try {
                t.setCell(cell, x, y, 1);
                t.undo();
            } catch (IllegalArgumentException e) {
                taken = false;
            }
            check.due("cell " + cell + " at " + x + ", " + y + " is taken", taken, mayStand(cell, x, y));
        }
    }

    private void capacities() {
        for (int cell = 0; cell < 3; cell++) {
            int fixed = cell;
            int x = cell == 1 ? 100 : 0;
            int y = cell == 2 ? 100 : 0;
            probe.range(1, 100000, TripodScale::new, (t, capacity) -> t.setCell(fixed, x, y, capacity));
            TripodScale t = new TripodScale();
            check.due("the first capacity of cell " + cell, t.setCell(cell, x, y, 1), 5000);
            check.due("room for a capacity of 1", t.room(x, y), 1);
            check.due("the capacity 1", t.setCell(cell, x, y, 100000), 1);
            check.due("room for a capacity of 100000", t.room(x, y), 100000);
            check.due("the capacity 100000", t.setCell(cell, x, y, 7), 100000);
        }
    }

    private void objects() {
        TripodScale t = new TripodScale();
        for (int i = 0; i < 8; i++) {
            int[] corner = CORNERS[i % 4];
            check.due("place", t.place(corner[0], corner[1], i == 0 ? 1 : 1000), i);
        }
        probe.refuses("a ninth object", Probe.STATE, () -> Scales.withObjects(8), u -> u.place(0, 0, 1));
        probe.refuses("weight 0", Probe.ARGUMENT, TripodScale::new, u -> u.place(0, 0, 0));
        probe.refuses("weight 1001", Probe.ARGUMENT, TripodScale::new, u -> u.place(0, 0, 1001));
        check.due("the weight of object 0", t.lift(0), 1);
        check.due("place after a lift", t.place(0, 0, 1), 7);
        for (int i = 0; i < 7; i++) {
            check.due("the weight of an object", t.lift(0), 1000);
        }
        check.due("the weight of the last object", t.lift(0), 1);
        check.due("place after all lifts", t.place(0, 0, 1), 0);
    }

    private void moments() {
        loadsDue(new TripodScale(), 0, 0, 0);
        int[][][] triangles = {WIDE, FLAT, {{0, 0}, {100, 0}, {0, 100}}, {{0, 0}, {0, 100}, {100, 0}},
            {{100, 100}, {-100, -100}, {-100, 99}}, {{-1, 0}, {0, 0}, {0, -1}}};
        for (int[][] cells : triangles) {
            for (int[] corner : CORNERS) {
                momentsDue(heaviest(cells, corner[0], corner[1]), cells, 8000, 8000L * corner[0], 8000L * corner[1]);
                TripodScale t = withCells(cells, 1);
                t.place(corner[0], corner[1], 999);
                t.place(-corner[1], 7, 1);
                momentsDue(t, cells, 1000, 999L * corner[0] - corner[1], 999L * corner[1] + 7);
            }
        }
        loadsDue(heaviest(FLAT, -100, 100), 1608000, 318400000, -320000000);
    }

    /** The three equations, times all three denominators. */
    private void momentsDue(TripodScale t, int[][] cells, long weight, long momentX, long momentY) {
        long common = t.load(0, 1) * t.load(1, 1) * t.load(2, 1);
        long sum = 0;
        long sumX = 0;
        long sumY = 0;
        for (int cell = 0; cell < 3; cell++) {
            long load = t.load(cell, 0) * (common / t.load(cell, 1));
            sum += load;
            sumX += load * cells[cell][0];
            sumY += load * cells[cell][1];
        }
        check.due("the sum of the loads", sum, weight * common);
        check.due("the moment of the loads in x", sumX, momentX * common);
        check.due("the moment of the loads in y", sumY, momentY * common);
    }

    private void promise1() {
        sentences.section("Promise 1: A new object");
        sentences.says("Creates a platform without objects, two hypotheses with weight 1, and nothing else.", () -> {
            probe.refuses("no object", Probe.BOUNDS, TripodScale::new, t -> t.lift(0));
            probe.refuses("no third hypothesis", Probe.BOUNDS, TripodScale::new, t -> t.odds(2, 0));
            probe.refuses("no test", Probe.BOUNDS, TripodScale::new, t -> t.observe(0, 0));
            probe.refuses("no session", Probe.BOUNDS, TripodScale::new, t -> t.supporterOf(0));
            probe.refuses("no saved state", Probe.STATE, TripodScale::new, t -> t.undo());
            check.due("no supporter, no session", new TripodScale().clearSessions(), 0);
            check.due("the first supporter", new TripodScale().addSupporter(1, 1), 0);
            check.due("the weight of hypothesis 0", new TripodScale().setWeight(0, 5), 1);
            check.due("the weight of hypothesis 1", new TripodScale().setWeight(1, 5), 1);
            loadsDue(new TripodScale(), 0, 0, 0);
        });
    }

    private void promise2() {
        sentences.section("Promise 2: setCell");
        sentences.says("Sets the place and the capacity of a cell.", () -> {
            TripodScale t = new TripodScale();
            t.setCell(2, -100, 100, 9);
            t.place(-100, 100, 9);
            loadsDue(t, 0, 0, 9);
            check.due("the capacity is just reached", t.overloaded(), 0);
            t.setCell(2, -100, 100, 8);
            check.due("the capacity is passed", t.overloaded(), 4);
            check.due("the capacity of cell 1 is its own", t.setCell(1, 100, -99, 3), 5000);
        });
        sentences.says("Undoable.", () -> {
            probe.savesChange(TripodScale::new, t -> t.setCell(0, 1, -1, 5000));
            probe.savesChange(Scales::withAll, t -> t.setCell(1, 100, 0, 4999));
            probe.savesChange(Scales::full, t -> t.setCell(0, -100, -100, 100000));
            probe.saves(Scales::withAll, t -> t.setCell(1, 100, 0, 5000));
        });
        sentences.says("`cell`: 0 to 2", () -> {
            probe.numbers(3, TripodScale::new, (t, cell) -> t.setCell(cell, -50, -51, 1));
            for (int cell = 0; cell < 3; cell++) {
                TripodScale t = new TripodScale();
                t.setCell(cell, -50, -51, 1);
                t.place(-50, -51, 1);
                loadsDue(t, cell == 0 ? 1 : 0, cell == 1 ? 1 : 0, cell == 2 ? 1 : 0);
            }
        });
        sentences.says("`x`: -100 to 100", () ->
                probe.range(-100, 100, () -> withCells(new int[][] {{0, 0}, {-100, 99}, {99, 99}}, 1), (t, x) -> t.setCell(0, x, 98, 1)));
        sentences.says("`y`: -100 to 100", () ->
                probe.range(-100, 100, () -> withCells(new int[][] {{0, 0}, {99, -100}, {99, 99}}, 1), (t, y) -> t.setCell(0, 98, y, 1)));
        sentences.says("`capacity`: 1 to 100000", () ->
                probe.range(1, 100000, Scales::withAll, (t, capacity) -> t.setCell(1, 3, 4, capacity)));
        sentences.says("Returns the previous capacity.", () -> {
            TripodScale t = new TripodScale();
            check.due("the first", t.setCell(1, 10, 10, 1), 5000);
            check.due("the smallest", t.setCell(1, 20, 10, 100000), 1);
            check.due("the greatest", t.setCell(1, 20, 10, 100000), 100000);
            t.undo();
            t.undo();
            check.due("after undo", t.setCell(1, 20, 10, 7), 1);
        });
        sentences.says("Throws `IndexOutOfBoundsException` if there is no such cell", () -> {
            probe.refuses("cell -1", Probe.BOUNDS, Scales::withAll, t -> t.setCell(-1, 5, 5, 5));
            probe.refuses("cell 3", Probe.BOUNDS, Scales::full, t -> t.setCell(3, 5, 5, 5));
        });
        sentences.says("Throws `IllegalArgumentException` if an argument is out of range, or the cells would lie on one line",
                this::setCellThrows);
    }

    private void setCellThrows() {
        probe.refuses("x -101", Probe.ARGUMENT, Scales::withAll, t -> t.setCell(0, -101, 5, 5));
        probe.refuses("x 101", Probe.ARGUMENT, Scales::withAll, t -> t.setCell(0, 101, 5, 5));
        probe.refuses("y -101", Probe.ARGUMENT, Scales::withAll, t -> t.setCell(0, 5, -101, 5));
        probe.refuses("y 101", Probe.ARGUMENT, Scales::withAll, t -> t.setCell(0, 5, 101, 5));
        probe.refuses("capacity 0", Probe.ARGUMENT, Scales::withAll, t -> t.setCell(0, 5, 5, 0));
        probe.refuses("capacity 100001", Probe.ARGUMENT, Scales::withAll, t -> t.setCell(0, 5, 5, 100001));
        probe.refuses("between the two others", Probe.ARGUMENT, TripodScale::new, t -> t.setCell(0, 50, 50, 5));
        probe.refuses("beyond the two others", Probe.ARGUMENT, TripodScale::new, t -> t.setCell(1, 0, -1, 5));
        probe.refuses("at another cell", Probe.ARGUMENT, TripodScale::new, t -> t.setCell(2, 100, 0, 5));
        probe.refuses("on a slanted line", Probe.ARGUMENT, Scales::withAll, t -> t.setCell(2, 50, -5, 5));
        probe.takes("just beside the line", Scales::withAll, t -> t.setCell(2, 50, -4, 5));
        // The old place of the cell that is set does not count.
        probe.takes("the line of the old places", TripodScale::new, t -> t.setCell(0, 0, 50, 5));
    }

    private void promise3() {
        sentences.section("Promise 3: place");
        sentences.says("Places an object.", () -> {
            loadsDue(placed(100, 0), 0, 1, 0);
            TripodScale t = Scales.withObjects(7);
            t.place(0, 0, 13);
            check.due("the eighth object", t.lift(7), 13);
            TripodScale u = placed(-100, 100);
            loadsDue(u, 1, -1, 1);
        });
        sentences.says("Undoable.", () -> {
            probe.savesChange(TripodScale::new, t -> t.place(0, 0, 1));
            probe.savesChange(() -> Scales.withObjects(7), t -> t.place(-100, -100, 1000));
        });
        sentences.says("`x`: -100 to 100", () -> {
            probe.range(-100, 100, Scales::withAll, (t, x) -> t.place(x, 5, 5));
            loadDue(placed(-100, 0), 1, -1, 1);
            loadDue(placed(100, 0), 1, 1, 1);
        });
        sentences.says("`y`: -100 to 100", () -> {
            probe.range(-100, 100, Scales::withAll, (t, y) -> t.place(5, y, 5));
            loadDue(placed(0, -100), 2, -1, 1);
            loadDue(placed(0, 100), 2, 1, 1);
        });
        sentences.says("`weight`: 1 to 1000", () -> probe.range(1, 1000, Scales::withAll, (t, weight) -> t.place(5, 5, weight)));
        sentences.says("Returns the number of the object.", () -> {
            TripodScale t = new TripodScale();
            for (int i = 0; i < 8; i++) {
                check.due("place", t.place(0, 0, 5), i);
            }
            t.lift(3);
            check.due("place after a lift", t.place(0, 0, 5), 7);
        });
        sentences.says("Throws `IllegalArgumentException` if an argument is out of range", () -> {
            probe.refuses("x -101", Probe.ARGUMENT, Scales::withAll, t -> t.place(-101, 5, 5));
            probe.refuses("x 101", Probe.ARGUMENT, Scales::withAll, t -> t.place(101, 5, 5));
            probe.refuses("y -101", Probe.ARGUMENT, Scales::withAll, t -> t.place(5, -101, 5));
            probe.refuses("y 101", Probe.ARGUMENT, Scales::withAll, t -> t.place(5, 101, 5));
            probe.refuses("weight 0", Probe.ARGUMENT, Scales::withAll, t -> t.place(5, 5, 0));
            probe.refuses("weight 1001", Probe.ARGUMENT, Scales::withAll, t -> t.place(5, 5, 1001));
        });
        sentences.says("Throws `IllegalStateException` if there are 8 objects", () -> {
            probe.refuses("with 8 objects", Probe.STATE, Scales::full, t -> t.place(5, 5, 5));
            probe.refuses("with 8 objects, lightest", Probe.STATE, () -> Scales.withObjects(8), t -> t.place(0, 0, 1));
            probe.takes("with 7 objects", () -> Scales.withObjects(7), t -> t.place(5, 5, 5));
            probe.takes("after a lift", Scales::full, t -> t.lift(7) + t.place(5, 5, 5));
            probe.takes("after an undo", () -> Scales.withObjects(8), t -> t.undo() + t.place(5, 5, 5));
        });
    }

    private void promise4() {
        sentences.section("Promise 4: lift");
        sentences.says("Removes an object.", () -> {
            TripodScale t = new TripodScale();
            t.place(0, 100, 8);
            t.place(100, 0, 9);
            t.lift(0);
            loadsDue(t, 0, 9, 0);
            t.lift(0);
            loadsDue(t, 0, 0, 0);
            probe.refuses("lift of the last once more", Probe.BOUNDS, () -> placedAndLifted(), u -> u.lift(0));
        });
        sentences.says("The objects with higher numbers move down by one.", () -> {
            for (int lifted = 0; lifted < 8; lifted++) {
                TripodScale t = Scales.withObjects(8);
                t.lift(lifted);
                for (int i = 6; i >= 0; i--) {
                    check.due("object " + i + " after lift(" + lifted + ")", t.lift(i), i < lifted ? 10 + i : 11 + i);
                }
            }
            TripodScale u = placed(0, 0);
            u.place(100, 0, 2);
            u.place(0, 100, 3);
            u.lift(0);
            loadsDue(u, 0, 2, 3);
            u.lift(0);
            loadsDue(u, 0, 0, 3);
        });
        sentences.says("Undoable.", () -> {
            probe.savesChange(() -> Scales.withObjects(1), t -> t.lift(0));
            probe.savesChange(() -> Scales.withObjects(8), t -> t.lift(0));
            probe.savesChange(() -> Scales.withObjects(8), t -> t.lift(7));
        });
        sentences.says("`object`: number of an object", () -> {
            probe.numbers(1, () -> Scales.withObjects(1), (t, object) -> t.lift(object));
            probe.numbers(8, () -> Scales.withObjects(8), (t, object) -> t.lift(object));
        });
        sentences.says("Returns its weight.", () -> {
            TripodScale t = new TripodScale();
            t.place(0, 0, 1);
            t.place(0, 0, 1000);
            check.due("the greatest weight", t.lift(1), 1000);
            check.due("the smallest weight", t.lift(0), 1);
        });
        sentences.says("Throws `IndexOutOfBoundsException` if there is no such object", () -> {
            probe.refuses("lift(0) of none", Probe.BOUNDS, TripodScale::new, t -> t.lift(0));
            probe.refuses("lift(8) of 8", Probe.BOUNDS, () -> Scales.withObjects(8), t -> t.lift(8));
            probe.refuses("lift(7) of 7", Probe.BOUNDS, () -> Scales.withObjects(7), t -> t.lift(7));
            probe.refuses("lift(-1) of 8", Probe.BOUNDS, () -> Scales.withObjects(8), t -> t.lift(-1));
        });
    }

    private static TripodScale placedAndLifted() {
        TripodScale t = placed(0, 0);
        t.lift(0);
        return t;
    }

    private void promise5() {
        sentences.section("Promise 5: load");
        sentences.says("Returns the load of a cell, as a fraction.", () -> {
            TripodScale t = new TripodScale();
            t.place(20, 30, 7);
            loadDue(t, 0, 7, 2);
            loadDue(t, 1, 7, 5);
            loadDue(t, 2, 21, 10);
            loadDue(new TripodScale(), 0, 0, 1);
            loadDue(barelyUnstable(), 2, -1, 39999);
        });
        sentences.says("`cell`: 0 to 2", () -> {
            probe.numbers(3, Scales::withAll, (t, cell) -> t.load(cell, 0));
            probe.numbers(3, TripodScale::new, (t, cell) -> t.load(cell, 1));
        });
        sentences.says("`part`: 0 or 1", () -> {
            probe.range(0, 1, Scales::withAll, (t, part) -> t.load(0, part));
            probe.range(0, 1, TripodScale::new, (t, part) -> t.load(2, part));
        });
        sentences.says("Returns that part of the load.", () -> {
            check.due("part 0", barelyUnstable().load(2, 0), -1);
            check.due("part 1", barelyUnstable().load(2, 1), 39999);
        });
        sentences.says("Throws `IndexOutOfBoundsException` if there is no such cell", () -> {
            probe.refuses("load(-1, 0)", Probe.BOUNDS, Scales::withAll, t -> t.load(-1, 0));
            probe.refuses("load(3, 0)", Probe.BOUNDS, Scales::withAll, t -> t.load(3, 0));
        });
        sentences.says("Throws `IllegalArgumentException` if part is neither 0 nor 1", () -> {
            probe.refuses("load(0, -1)", Probe.ARGUMENT, Scales::withAll, t -> t.load(0, -1));
            probe.refuses("load(2, 2)", Probe.ARGUMENT, Scales::withAll, t -> t.load(2, 2));
        });
    }

    private void promise6() {
        sentences.section("Promise 6: reading");
        sentences.says("Returns what a cell shows: the greatest multiple of a resolution that is at most its load (it can be"
                + " negative).", () -> {
            check.due("of no load", new TripodScale().reading(0, 100), 0);
            check.due("of -1/39999", barelyUnstable().reading(2, 1), -1);
            check.due("of -1/39999, coarsest", barelyUnstable().reading(2, 100), -100);
            check.due("of 200/39999", barelyUnstable().reading(1, 1), 0);
            TripodScale t = new TripodScale();
            t.place(0, 0, 99);
            check.due("of 99, just below a multiple", t.reading(0, 100), 0);
            check.due("of 99, a multiple", t.reading(0, 99), 99);
            t.place(0, 0, 1);
            check.due("of 100, a multiple", t.reading(0, 100), 100);
            t.place(0, 0, 1);
            check.due("of 101, just above a multiple", t.reading(0, 100), 100);
            TripodScale u = new TripodScale();
            u.place(-100, 0, 100);
            check.due("of -100, a multiple", u.reading(1, 100), -100);
            check.due("of -100, no multiple", u.reading(1, 99), -198);
        });
        sentences.says("`cell`: 0 to 2", () -> probe.numbers(3, Scales::withAll, (t, cell) -> t.reading(cell, 1)));
        sentences.says("`resolution`: 1 to 100", () ->
                probe.range(1, 100, Scales::withAll, (t, resolution) -> t.reading(0, resolution)));
        sentences.says("Returns the reading.", () -> {
            check.due("of the greatest load", heaviest(FLAT, -100, 100).reading(1, 1), 318400000);
            check.due("of the smallest load", heaviest(FLAT, -100, 100).reading(2, 1), -320000000);
            check.due("of the smallest load by 7", heaviest(FLAT, -100, 100).reading(2, 7), -320000002);
        });
        sentences.says("Throws `IndexOutOfBoundsException` if there is no such cell", () -> {
            probe.refuses("reading(-1, 1)", Probe.BOUNDS, Scales::withAll, t -> t.reading(-1, 1));
            probe.refuses("reading(3, 1)", Probe.BOUNDS, Scales::withAll, t -> t.reading(3, 1));
        });
        sentences.says("Throws `IllegalArgumentException` if resolution is out of range", () -> {
            probe.refuses("reading(0, 0)", Probe.ARGUMENT, Scales::withAll, t -> t.reading(0, 0));
            probe.refuses("reading(0, -1)", Probe.ARGUMENT, Scales::withAll, t -> t.reading(0, -1));
            probe.refuses("reading(0, 101)", Probe.ARGUMENT, Scales::withAll, t -> t.reading(0, 101));
        });
    }

    private void promise7() {
        sentences.section("Promise 7: isStable");
        sentences.says("Tells whether the platform is stable.", () -> {
            check.due("an empty platform", new TripodScale().isStable(), true);
            check.due("just on an edge", justStable().isStable(), true);
            check.due("just beyond an edge", barelyUnstable().isStable(), false);
            for (int[] place : new int[][] {{0, 0}, {100, 0}, {0, 100}, {50, 50}, {0, 50}, {50, 0}, {33, 33}}) {
                check.due("at " + place[0] + ", " + place[1], placed(place[0], place[1]).isStable(), true);
            }
            for (int[] place : new int[][] {{-1, 50}, {50, -1}, {51, 50}, {50, 51}, {-1, -1}, {100, 100}, {-100, -100}}) {
                check.due("at " + place[0] + ", " + place[1], placed(place[0], place[1]).isStable(), false);
            }
        });
        sentences.says("Returns whether it is.", () -> {
            TripodScale t = new TripodScale();
            t.place(-1, 50, 1);
            check.due("unstable", t.isStable(), false);
            t.place(1, 50, 1);
            check.due("stable by a second object", t.isStable(), true);
            t.lift(1);
            check.due("unstable without it", t.isStable(), false);
            t.undo();
            check.due("stable after undo", t.isStable(), true);
        });
    }

    private void promise8() {
        sentences.section("Promise 8: overloaded");
        sentences.says("Returns the overloaded cells.", () -> {
            check.due("of an empty platform", withCells(FLAT, 1).overloaded(), 0);
            check.due("at the capacity", justNotOverloaded().overloaded(), 0);
            check.due("a fraction above the capacity", barelyOverloaded().overloaded(), 4);
            check.due("a negative load is not above the capacity", heaviest(FLAT, -100, 100).overloaded(), 3);
        });
        sentences.says("Returns a bit set of cells.", () -> {
            for (int set = 0; set < 8; set++) {
                TripodScale t = withCells(WIDE, 5);
                for (int cell = 0; cell < 3; cell++) {
                    t.place(WIDE[cell][0], WIDE[cell][1], 5 + (set >> cell & 1));
                }
                check.due("overloaded", t.overloaded(), set);
            }
        });
    }

    private void promise9() {
        sentences.section("Promise 9: room");
        sentences.says("Returns the greatest weight that could be added at a place such that the platform is stable and no cell"
                + " is overloaded.", this::roomIsGreatest);
        sentences.says("`x`: -100 to 100", () -> probe.range(-100, 100, Scales::withAll, (t, x) -> t.room(x, 5)));
        sentences.says("`y`: -100 to 100", () -> probe.range(-100, 100, Scales::withAll, (t, y) -> t.room(5, y)));
        sentences.says("Returns the greatest whole number of this kind, 0 or more; NONE if the platform is not stable or a cell"
                + " is overloaded already.", () -> {
            check.due("a cell at its capacity", justNotOverloaded().room(WIDE[2][0], WIDE[2][1]), 0);
            check.due("a cell at its capacity, to be loaded by 1/39999", justNotOverloaded().room(BARELY_INSIDE[0], BARELY_INSIDE[1]), 0);
            check.due("a fraction above it", barelyOverloaded().room(WIDE[2][0], WIDE[2][1]), -1);
            check.due("a cell with no load, to be lifted", justStable().room(BARELY_OUTSIDE[0], BARELY_OUTSIDE[1]), 0);
            check.due("a load of -1/39999", barelyUnstable().room(0, 0), -1);
            check.due("which an object would mend", barelyUnstable().room(BARELY_INSIDE[0], BARELY_INSIDE[1]), -1);
            check.due("overloaded, and relieved from there", relieved().room(-100, 0), -1);
            check.due("an empty platform, outside", new TripodScale().room(100, 100), 0);
        });
        sentences.says("Throws `IllegalArgumentException` if an argument is out of range", () -> {
            probe.refuses("room(-101, 0)", Probe.ARGUMENT, Scales::withAll, t -> t.room(-101, 0));
            probe.refuses("room(101, 0)", Probe.ARGUMENT, TripodScale::new, t -> t.room(101, 0));
            probe.refuses("room(0, -101)", Probe.ARGUMENT, Scales::full, t -> t.room(0, -101));
            probe.refuses("room(0, 101) if unstable", Probe.ARGUMENT, () -> placed(-1, -1), t -> t.room(0, 101));
        });
    }

    /** Cell 1 is overloaded; a weight left of the cells would lift it. */
    private static TripodScale relieved() {
        TripodScale t = placed(100, 0);
        t.place(0, 50, 500);
        t.place(100, 0, 1);
        t.setCell(1, 100, 0, 1);
        return t;
    }

    private void roomIsGreatest() {
        check.due("an empty platform, at a cell", new TripodScale().room(100, 0), 5000);
        check.due("between two cells", new TripodScale().room(50, 50), 10000);
        TripodScale t = withCells(new int[][] {{-99, -99}, {99, -99}, {-99, 99}}, 100000);
        check.due("as much as three cells can bear", t.room(-33, -33), 300000);
        check.due("the smallest capacities", withCells(WIDE, 1).room(-33, -33), 3);
        check.due("with 8 objects", heaviest(new int[][] {{-99, -99}, {99, -99}, {-99, 99}}, -33, -33).room(-33, -33), 292000);
        // A cell that is lifted sets the bound; what it bears then is 0, and below 0 with 1 more.
        TripodScale u = new TripodScale();
        u.place(50, 50, 300);
        check.due("lifts cell 1 to 0", u.room(-50, 0), 300);
        TripodScale v = new TripodScale();
        v.place(20, 30, 7);
        check.due("a whole number below 7/5 * 100 / 33", v.room(-33, 50), 4);
        check.due("a fraction less than the capacity is left", v.room(0, 0), 4996);
    }
}
