import java.util.function.Consumer;
import java.util.function.Supplier;
import java.util.function.ToIntFunction;

/** What the calls of looking tell of a store, to see what a call changes and what it leaves. */
final class Told {
    /** Of one thing; no store that is told here has more. */
    private static final int MOST_COPIES = 8;

    private Told() {
    }

    /** All that is told of a state, but for the text and the history. */
    static String state(NamedMoves x) {
        StringBuilder told = new StringBuilder();
        for (int what = 0; what < 12; what++) {
            told.append(x.count(what)).append(' ');
        }
        for (int hook = 0; hook < 8; hook++) {
            told.append("h ").append(x.hook(hook)).append(" n ").append(x.named(hook)).append(' ');
        }
        told.append(x.garbage()).append(' ').append(x.stepsLeft()).append(' ').append(x.freeThen());
        int things = x.count(0);
        for (int thing = 0; thing < things; thing++) {
            told.append(" thing ").append(thing);
            copiesOf(thing, x, told);
        }
        return told.toString();
    }

    private static void copiesOf(int thing, NamedMoves x, StringBuilder told) {
        for (int index = 0; index < MOST_COPIES; index++) {
            int address = x.where(thing, index);
            if (address < 0) {
                return;
            }
            copy(told, x, address);
        }
    }

    private static void copy(StringBuilder told, NamedMoves x, int address) {
        told.append(" at ").append(address);
        for (int what = 0; what < 6; what++) {
            told.append(' ').append(x.copy(address, what));
        }
    }

    /**
     * The state, the states that undo brings back, how the move goes on, and what the text does. The
     * object is made anew for each of these, as one is promised to serve 512 calls only.
     */
    static String everything(Supplier<NamedMoves> maker) {
        StringBuilder told = new StringBuilder(state(maker.get()));
        told.append(" states ").append(maker.get().count(12)).append(" text ").append(maker.get().count(13));
        for (int times = 1; times <= 6; times++) {
            NamedMoves x = maker.get();
            for (int time = 0; time < times; time++) {
                told.append(" undo ").append(x.undo());
            }
            told.append(' ').append(state(x));
        }
        NamedMoves carried = maker.get();
        told.append(" carry ").append(carried.carry(99)).append(' ').append(state(carried));
        NamedMoves run = maker.get();
        told.append(" run ").append(run.run()).append(' ').append(state(run));
        return told.toString();
    }

    /** A call that answers this changes nothing: nothing that can be told, now or later. */
    static void changesNothing(Due due, String call, Supplier<NamedMoves> maker,
            ToIntFunction<NamedMoves> done, int answer) {
        due.same(call, done.applyAsInt(maker.get()), answer);
        due.holds(call + " changes nothing", everything(maker).equals(everything(() -> {
            NamedMoves x = maker.get();
            done.applyAsInt(x);
            return x;
        })));
    }

    /** A call that answers this records the state before it, and nothing else. */
    static void action(Due due, String call, Supplier<NamedMoves> maker, ToIntFunction<NamedMoves> done,
            int answer) {
        NamedMoves x = maker.get();
        int recorded = Math.min(5, x.count(12) + 1);
        due.same(call, done.applyAsInt(x), answer);
        due.same(call + " is recorded", x.count(12), recorded);
        due.same(call + " can be undone", x.undo(), recorded - 1);
        due.holds(call + " is undone", state(x).equals(state(maker.get())));
    }

    /** A call that is no action: the history stays as it is. */
    static void noAction(Due due, String call, Supplier<NamedMoves> maker, Consumer<NamedMoves> done) {
        NamedMoves x = maker.get();
        done.accept(x);
        NamedMoves y = maker.get();
        due.same(call + " is not recorded", x.count(12), y.count(12));
        due.same("undo behind " + call, x.undo(), y.undo());
        due.holds(call + " is no action", state(x).equals(state(y)));
    }
}
