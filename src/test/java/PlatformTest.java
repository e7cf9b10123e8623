/** Promises 1 to 9: a new object, setCell, place, lift, load, reading, isStable, overloaded, room. */
public final class PlatformTest {
    private static final Check CHECK = new Check();

    public static void main(String[] args) {
        newObject();
        setCell();
        setCellRefuses();
        place();
        lift();
        load();
        reading();
        stable();
        overloaded();
        room();
        roomBounds();
        examples();
        CHECK.finish();
    }

    private static void loadDue(TripodScale t, int cell, long numerator, long denominator) {
        CHECK.fraction("load(" + cell + ")", t.load(cell, 0), t.load(cell, 1), numerator, denominator);
    }

    private static void newObject() {
        CHECK.due("NONE", TripodScale.NONE, -1);
        TripodScale t = new TripodScale();
        for (int cell = 0; cell < 3; cell++) {
            loadDue(t, cell, 0, 1);
        }
        CHECK.due("new isStable", t.isStable(), true);
        CHECK.due("new overloaded", t.overloaded(), 0);
        CHECK.due("new capacity 0", t.room(0, 0), 5000);
        CHECK.due("new capacity 1", t.room(100, 0), 5000);
        CHECK.due("new capacity 2", t.room(0, 100), 5000);
        CHECK.fraction("new odds(0)", t.odds(0, 0), t.odds(0, 1), 1, 2);
        CHECK.fraction("new odds(1)", t.odds(1, 0), t.odds(1, 1), 1, 2);
        CHECK.due("new covered", t.covered(), 0);
        CHECK.outOfBounds("new odds(2, 0)", t, () -> t.odds(2, 0));
        CHECK.outOfBounds("new lift(0)", t, () -> t.lift(0));
        CHECK.outOfBounds("new observe(0, 0)", t, () -> t.observe(0, 0));
        CHECK.outOfBounds("new supporterOf(0)", t, () -> t.supporterOf(0));
        CHECK.badState("new undo()", t, t::undo);
        CHECK.due("new clearSessions", t.clearSessions(), 0);
    }

    private static void setCell() {
        TripodScale t = new TripodScale();
        CHECK.due("setCell answers the old capacity", t.setCell(0, -100, -100, 1), 5000);
        CHECK.due("setCell answers the set capacity", t.setCell(0, 0, 0, 100000), 1);
        CHECK.due("setCell, same again", t.setCell(0, 0, 0, 100000), 100000);
        CHECK.due("capacity of the other cells", t.setCell(2, 100, 100, 7), 5000);
        CHECK.due("room at cell 2", t.room(100, 100), 7);
        t.place(100, 100, 7);
        loadDue(t, 2, 7, 1);
        CHECK.due("undo", t.undo(), 3);
        CHECK.due("undo", t.undo(), 3 - 1);
        CHECK.due("room after undo", t.room(0, 100), 5000);
    }

    private static void setCellRefuses() {
        TripodScale t = new TripodScale();
        CHECK.outOfBounds("setCell(-1)", t, () -> t.setCell(-1, 0, 0, 1));
        CHECK.outOfBounds("setCell(3)", t, () -> t.setCell(3, 0, 0, 1));
        CHECK.outOfBounds("setCell(3) with bad arguments", t, () -> t.setCell(3, 101, 0, 0));
        CHECK.badArgument("x 101", t, () -> t.setCell(0, 101, 0, 1));
        CHECK.badArgument("x -101", t, () -> t.setCell(0, -101, 0, 1));
        CHECK.badArgument("y 101", t, () -> t.setCell(0, 0, 101, 1));
        CHECK.badArgument("y -101", t, () -> t.setCell(0, 0, -101, 1));
        CHECK.badArgument("capacity 0", t, () -> t.setCell(0, 0, 0, 0));
        CHECK.badArgument("capacity 100001", t, () -> t.setCell(0, 0, 0, 100001));
        CHECK.badArgument("capacity least", t, () -> t.setCell(0, 0, 0, Integer.MIN_VALUE));
        CHECK.badArgument("x greatest", t, () -> t.setCell(0, Integer.MAX_VALUE, 0, 1));
        CHECK.badArgument("on one line", t, () -> t.setCell(0, 50, 50, 1));
        CHECK.badArgument("on one line, outside", t, () -> t.setCell(1, 0, -70, 1));
        CHECK.badArgument("at another cell", t, () -> t.setCell(2, 100, 0, 1));
        CHECK.badState("nothing was saved", t, t::undo);
        CHECK.due("cell over the line", t.setCell(0, 100, 100, 1), 5000);
    }

    private static void place() {
        TripodScale t = new TripodScale();
        CHECK.badArgument("x 101", t, () -> t.place(101, 0, 1));
        CHECK.badArgument("x -101", t, () -> t.place(-101, 0, 1));
        CHECK.badArgument("y 101", t, () -> t.place(0, 101, 1));
        CHECK.badArgument("y -101", t, () -> t.place(0, -101, 1));
        CHECK.badArgument("weight 0", t, () -> t.place(0, 0, 0));
        CHECK.badArgument("weight 1001", t, () -> t.place(0, 0, 1001));
        for (int i = 0; i < 8; i++) {
            CHECK.due("place", t.place(i % 2 == 0 ? -100 : 100, i < 4 ? -100 : 100, i == 0 ? 1000 : i), i);
        }
        CHECK.badState("place a ninth", t, () -> t.place(0, 0, 1));
        CHECK.badArgument("place a ninth, badly", t, () -> t.place(0, 0, 0));
        CHECK.due("lift the first", t.lift(0), 1000);
        CHECK.due("place an eighth again", t.place(0, 0, 1), 7);
    }

    private static void lift() {
        TripodScale t = new TripodScale();
        t.place(1, 0, 10);
        t.place(2, 0, 20);
        t.place(3, 0, 30);
        CHECK.outOfBounds("lift(3)", t, () -> t.lift(3));
        CHECK.outOfBounds("lift(-1)", t, () -> t.lift(-1));
        CHECK.due("lift(1)", t.lift(1), 20);
        loadDue(t, 1, 1, 1);
        CHECK.outOfBounds("lift(2)", t, () -> t.lift(2));
        CHECK.due("lift(1), moved down", t.lift(1), 30);
        CHECK.due("lift(0)", t.lift(0), 10);
        CHECK.outOfBounds("lift(0) of none", t, () -> t.lift(0));
        loadDue(t, 0, 0, 1);
        CHECK.due("undo", t.undo(), 3);
        CHECK.due("lift(0) once more", t.lift(0), 10);
    }

    private static void load() {
        TripodScale t = new TripodScale();
        t.place(20, 30, 7);
        loadDue(t, 0, 7, 2);
        loadDue(t, 1, 7, 5);
        loadDue(t, 2, 21, 10);
        t.place(-50, 0, 3);
        loadDue(t, 0, 8, 1);
        loadDue(t, 1, -1, 10);
        // Mirrored cells turn the other way round; the loads stay.
        t.setCell(1, 100, 100, 5000);
        t.setCell(2, 100, 0, 5000);
        t.setCell(1, 0, 100, 5000);
        loadDue(t, 0, 8, 1);
        loadDue(t, 2, -1, 10);
        loadDue(t, 1, 21, 10);
        CHECK.outOfBounds("load(3, 0)", t, () -> t.load(3, 0));
        CHECK.outOfBounds("load(-1, 2)", t, () -> t.load(-1, 2));
        CHECK.badArgument("load(0, 2)", t, () -> t.load(0, 2));
        CHECK.badArgument("load(0, -1)", t, () -> t.load(0, -1));
    }

    private static void reading() {
        TripodScale t = new TripodScale();
        t.place(20, 30, 7);
        CHECK.due("reading(0, 1) of 7/2", t.reading(0, 1), 3);
        CHECK.due("reading(0, 2) of 7/2", t.reading(0, 2), 2);
        CHECK.due("reading(0, 100) of 7/2", t.reading(0, 100), 0);
        t.place(-50, 0, 3);
        CHECK.due("reading(1, 1) of -1/10", t.reading(1, 1), -1);
        CHECK.due("reading(1, 100) of -1/10", t.reading(1, 100), -100);
        CHECK.due("reading(0, 8) of 8", t.reading(0, 8), 8);
        CHECK.outOfBounds("reading(3, 0)", t, () -> t.reading(3, 0));
        CHECK.outOfBounds("reading(-1, 1)", t, () -> t.reading(-1, 1));
        CHECK.badArgument("reading(0, 0)", t, () -> t.reading(0, 0));
        CHECK.badArgument("reading(0, 101)", t, () -> t.reading(0, 101));
        // The flattest triangle and the heaviest objects in a corner.
        t.setCell(0, -100, -100, 1);
        t.setCell(1, 99, 99, 1);
        t.setCell(2, 100, 99, 1);
        t.lift(1);
        t.lift(0);
        for (int i = 0; i < 8; i++) {
            t.place(-100, 100, 1000);
        }
        loadDue(t, 2, -1600000, 1);
        CHECK.due("reading of a great load", t.reading(2, 1), -1600000);
        CHECK.due("reading of a great load", t.reading(2, 7), -1600004);
    }

    private static void stable() {
        TripodScale t = new TripodScale();
        t.place(0, 50, 10);
        CHECK.due("on the edge", t.isStable(), true);
        t.place(-1, 50, 1);
        CHECK.due("beyond the edge", t.isStable(), false);
        t.place(1, 50, 1);
        CHECK.due("in balance on the edge", t.isStable(), true);
        t.place(51, 50, 1000);
        CHECK.due("beyond the long edge", t.isStable(), false);
    }

    private static void overloaded() {
        TripodScale t = new TripodScale();
        t.setCell(0, 0, 0, 10);
        t.setCell(1, 100, 0, 20);
        t.setCell(2, 0, 100, 30);
        t.place(0, 0, 10);
        CHECK.due("just at the capacity", t.overloaded(), 0);
        t.place(1, 0, 1);
        CHECK.due("a fraction above it", t.overloaded(), 1);
        t.place(0, 100, 31);
        CHECK.due("cells 0 and 2", t.overloaded(), 5);
        t.place(100, 0, 21);
        CHECK.due("all cells", t.overloaded(), 7);
        t.lift(0);
        CHECK.due("cells 1 and 2", t.overloaded(), 6);
    }

    private static void room() {
        TripodScale t = new TripodScale();
        CHECK.badArgument("x 101", t, () -> t.room(101, 0));
        CHECK.badArgument("x -101", t, () -> t.room(-101, 0));
        CHECK.badArgument("y 101", t, () -> t.room(0, 101));
        CHECK.badArgument("y -101", t, () -> t.room(0, -101));
        CHECK.due("outside of an empty platform", t.room(-1, 0), 0);
        t.place(50, 50, 300);
        CHECK.due("outside: cell 1 would be lifted", t.room(-1, 0), 4950);
        CHECK.due("outside: cell 1 is lifted first", t.room(-50, 0), 300);
        CHECK.due("at cell 1", t.room(100, 0), 4850);
        t.setCell(1, 100, 0, 150);
        CHECK.due("a cell just at its capacity", t.room(100, 0), 0);
        CHECK.due("which the weight does not load", t.room(0, 50), 9700);
        CHECK.due("which the weight lifts", t.room(-10, 50), 1500);
        t.setCell(1, 100, 0, 149);
        CHECK.due("an overloaded cell", t.room(0, 0), -1);
        t.undo();
        t.place(-100, -100, 1000);
        CHECK.due("an unstable platform", t.room(50, 50), -1);
        CHECK.badArgument("unstable, x 101", t, () -> t.room(101, 0));
    }

    private static void roomBounds() {
        TripodScale t = new TripodScale();
        for (int cell = 0; cell < 3; cell++) {
            t.setCell(cell, cell == 1 ? 99 : -99, cell == 2 ? 99 : -99, 100000);
        }
        CHECK.due("above the greatest weight of an object", t.room(-33, -33), 300000);
        for (int i = 0; i < 8; i++) {
            t.place(-33, -33, 1000);
        }
        CHECK.due("with 8 objects", t.room(-33, -33), 292000);
    }

    private static void examples() {
        TripodScale t = new TripodScale();
        CHECK.due("example 1", t.place(50, 50, 300), 0);
        CHECK.due("example 1", t.load(0, 0), 0);
        CHECK.due("example 1", t.load(1, 0), 150);
        CHECK.due("example 1", t.place(20, 30, 7), 1);
        CHECK.due("example 1", t.load(0, 0), 7);
        CHECK.due("example 1", t.load(0, 1), 2);
        CHECK.due("example 1", t.reading(0, 10), 0);
        CHECK.due("example 1", t.room(0, 0), 4996);
        TripodScale u = new TripodScale();
        CHECK.due("example 5", u.place(-20, -20, 500), 0);
        CHECK.due("example 5", u.isStable(), false);
        CHECK.due("example 5", u.room(0, 0), -1);
        CHECK.badArgument("example 5", u, () -> u.setCell(0, 50, 50, 1));
        CHECK.outOfBounds("example 5", u, () -> u.lift(1));
    }
}
