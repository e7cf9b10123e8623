import java.util.ArrayList;
import java.util.List;

/** Asks calls at their bounds: what is taken, what is refused, what is saved. */
final class Probe {
    interface Act {
        long on(TripodScale t);
    }

    interface ActWith {
        long on(TripodScale t, int value);
    }

    static final Class<IndexOutOfBoundsException> BOUNDS = IndexOutOfBoundsException.class;
    static final Class<IllegalArgumentException> ARGUMENT = IllegalArgumentException.class;
    static final Class<IllegalStateException> STATE = IllegalStateException.class;
    static final Class<ArithmeticException> ARITHMETIC = ArithmeticException.class;

    private static final int MOST_TRIED = 250;

    private final Check check;

    Probe(Check check) {
        this.check = check;
    }

    /** The call throws just that, and leaves the state and all saved states as they were. */
    void refuses(String what, Class<? extends RuntimeException> want, Scales.Maker maker, Act act) {
        TripodScale t = maker.make();
        check.thrown(what, t, () -> act.on(t), want);
        check.due(what + ": all states are as before", states(t).equals(states(maker.make())), true);
    }

    void takes(String what, Scales.Maker maker, Act act) {
        String threw = "";
        try {
            act.on(maker.make());
        } catch (RuntimeException e) {
            threw = " threw " + e;
        }
        check.due(what + threw + "; taken", threw.isEmpty(), true);
    }

    /** All of low to high are taken, of many some at both ends; what lies beyond is a wrong argument. */
    void range(int low, int high, Scales.Maker maker, ActWith act) {
        takesAll(low, high, maker, act);
        refusesBeyond(ARGUMENT, low, high, maker, act);
    }

    /** The numbers 0 to count - 1 are taken, the others are out of bounds. */
    void numbers(int count, Scales.Maker maker, ActWith act) {
        takesAll(0, count - 1, maker, act);
        refusesBeyond(BOUNDS, 0, count - 1, maker, act);
    }

    private void takesAll(int low, int high, Scales.Maker maker, ActWith act) {
        for (int value = low; value <= high; value++) {
            if (value == low + MOST_TRIED / 2 && high - low > MOST_TRIED) {
                value = high - MOST_TRIED / 2;
            }
            int tried = value;
            takes("the value " + value, maker, t -> act.on(t, tried));
        }
    }

    void refusesBeyond(Class<? extends RuntimeException> want, int low, int high, Scales.Maker maker, ActWith act) {
        int[] values = {low - 1, high + 1, low - 2, high + 2, Integer.MIN_VALUE, Integer.MAX_VALUE};
        for (int value : values) {
            refuses("the value " + value, want, maker, t -> act.on(t, value));
        }
    }

    /** The call saves the state from before it as the newest; of four saved ones the oldest goes. */
    void saves(Scales.Maker maker, Act act) {
        List<Long> before = states(maker.make());
        TripodScale t = maker.make();
        act.on(t);
        int remain = Math.min(before.size() - 1, 3);
        check.due("undo of the call", t.undo(), remain);
        check.due("the states afterwards are those from before", states(t).equals(before.subList(0, remain + 1)), true);
    }

    /** The call changes something, and saves the state with any number of saved states. */
    void savesChange(Scales.Maker maker, Act act) {
        TripodScale t = maker.make();
        act.on(t);
        check.due("the call changes nothing", states(t).get(0).equals(states(maker.make()).get(0)), false);
        for (int saved = 0; saved <= 4; saved++) {
            int count = saved;
            saves(() -> withSaved(maker.make(), count), act);
        }
    }

    /** That many saved states, which all differ; cell 2 stands somewhere else with each of them. */
    private static TripodScale withSaved(TripodScale t, int saved) {
        for (int i = 0; i < 4; i++) {
            t.setCell(2, i - 4, 99, 700 + i);
        }
        for (int i = 0; i < 4; i++) {
            t.undo();
        }
        for (int i = 0; i < saved; i++) {
            t.setCell(2, i + 1, 100, 600 + i);
        }
        return t;
    }

    /** The digests from the present state to the oldest saved one, without their term for the saved states. */
    static List<Long> states(TripodScale t) {
        List<Long> digests = new ArrayList<>();
        digests.add(t.digest());
        boolean more = true;
        while (more && digests.size() < 10) {
            try {
                t.undo();
                digests.add(t.digest());
            } catch (IllegalStateException e) {
                more = false;
            }
        }
        int saved = digests.size() - 1;
        for (int i = 0; i <= saved; i++) {
            digests.set(i, digests.get(i) - (saved - i));
        }
        return digests;
    }
}
