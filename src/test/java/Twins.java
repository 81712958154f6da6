import java.util.ArrayList;
import java.util.List;

/** Two objects with the same calls behind them: one more call on one of them must leave both alike. */
final class Twins {
    interface Maker {
        ChainUnwinder make();
    }

    interface Call {
        int on(ChainUnwinder x);
    }

    private Twins() {
    }

    /** The call answers what is due, and nothing is done by it. */
    static void leaves(Check check, String what, Maker maker, int due, Call call) {
        ChainUnwinder one = maker.make();
        ChainUnwinder other = maker.make();
        check.is(what, call.on(one), due);
        check.is(what + " leaves all as it was", answers(one).equals(answers(other)), true);
    }

    static int answer(boolean done) {
        return done ? 1 : 0;
    }

    /** Two functions packed; the run is in the second one, and has been unwound. */
    static ChainUnwinder underWay() {
        ChainUnwinder x = new ChainUnwinder();
        Check.put(x, 1, 1, 11, 1, 50, 7, 10, 2, 1, 8);
        Check.put(x, 1, 2, 11, 2, 60, 13, 2, 2, 8);
        x.function(10, 19);
        x.function(0, 10);
        x.pack();
        x.begin(100, 101, 102, 103);
        Check.steps(x, 4);
        x.unwind();
        return x;
    }

    /** As underWay, but the run has come to its end. */
    static ChainUnwinder over() {
        ChainUnwinder x = underWay();
        Check.steps(x, 6);
        return x;
    }

    /** All the code and all the functions that there may be, and a run. */
    static ChainUnwinder full() {
        ChainUnwinder x = new ChainUnwinder();
        x.code(0x0808080808080808L, 8);
        for (int i = 0; i < 11; i++) {
            x.code(0, 8);
        }
        for (int i = 4; i >= 0; i--) {
            x.function(i, i + 1);
        }
        x.pack();
        x.begin(1, 2, 3, 4);
        return x;
    }

    /** Answers by which everything that an object holds is seen; it is used up then. */
    static List<Integer> answers(ChainUnwinder x) {
        List<Integer> all = new ArrayList<>();
        addFrames(x, all);
        addRun(x, all);
        all.addAll(Check.sectionOf(x));
        int[] places = {0, 2, 5, 10, 12, 18, 19};
        for (int place : places) {
            all.addAll(Check.wholeRow(x, place));
        }
        all.add(x.unwind());
        addFrames(x, all);
        for (int i = 0; i < 3; i++) {
            all.add(Check.step(x));
            addRun(x, all);
        }
        all.add(x.pack());
        all.addAll(Check.sectionOf(x));
        int length = x.code(8, 1);
        all.add(length);
        all.add(x.function(length - 1, length));
        all.add(x.pack());
        all.addAll(Check.sectionOf(x));
        all.add(answer(x.begin(1, 2, 3, 4)));
        for (int i = 0; i < 3; i++) {
            all.add(Check.step(x));
        }
        addRun(x, all);
        all.add(x.clear());
        return all;
    }

    private static void addFrames(ChainUnwinder x, List<Integer> all) {
        for (int i = 0; i < 4; i++) {
            all.addAll(Check.frame(x, i));
        }
    }

    private static void addRun(ChainUnwinder x, List<Integer> all) {
        all.addAll(Check.state(x));
        for (int i = 0; i < 4; i++) {
            all.add(x.call(i));
        }
    }
}
