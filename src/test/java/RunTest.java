/** Promises 9 to 12: begin, step, machine, call. */
public final class RunTest {
    private static final Check CHECK = new Check();
    private static final int NONE = Check.NONE;
    private static final int STATE = Check.STATE;
    private static final int INDEX = Check.INDEX;

    public static void main(String[] args) {
        begins();
        eachInstruction();
        wordsAreRemembered();
        jumps();
        callsAndReturns();
        noWholeInstruction();
        outOfTheStack();
        tooManyCalls();
        whenItIsOver();
        parts();
        CHECK.end();
    }

    private static ChainUnwinder run(int... code) {
        ChainUnwinder x = Check.one(code);
        x.begin(30, 11, 12, 13);
        return x;
    }

    /** A step of a run that began with 30, 11, 12 and 13, and what the machine has then. */
    private static void due(int[] code, int... state) {
        ChainUnwinder x = run(code);
        CHECK.is("step of " + code[0], Check.step(x), state[0]);
        CHECK.is("state behind " + code[0], Check.state(x), state);
    }

    private static int[] code(int... bytes) {
        return bytes;
    }

    private static void begins() {
        ChainUnwinder x = new ChainUnwinder();
        Check.put(x, 0, 0, 0, 8);
        CHECK.is("without functions", x.begin(1, 2, 3, 4), false);
        CHECK.is("there was no run", x.machine(0), NONE);
        x.function(2, 4);
        CHECK.is("begin", x.begin(-7, Integer.MIN_VALUE, Integer.MAX_VALUE, -1), true);
        CHECK.is("state", Check.state(x), 2, 39, -7, Integer.MIN_VALUE, Integer.MAX_VALUE, -1, 1);
        CHECK.is("call(0)", x.call(0), 255);
        CHECK.is("call(1)", x.call(1), NONE);
        Check.step(x);
        CHECK.is("begin anew", x.begin(5, 6, 7, 8), true);
        CHECK.is("state", Check.state(x), 2, 39, 5, 6, 7, 8, 1);
        x.clear();
        CHECK.is("without functions again", x.begin(1, 2, 3, 4), false);
        CHECK.is("the latest run stays", Check.state(x), 255, 39, 5, 6, 7, 8, 1);
    }

    private static void eachInstruction() {
        due(code(0, 8), 1, 39, 30, 11, 12, 13, 1);
        due(code(1, 1, 8), 2, 38, 30, 11, 12, 13, 1);
        due(code(2, 1, 8), 2, 40, 30, 255, 12, 13, 1);
        due(code(2, 0, 8), 2, 40, 255, 11, 12, 13, 1);
        due(code(3, 39, 8), 2, 0, 30, 11, 12, 13, 1);
        due(code(4, 1, 8), 2, 40, 30, 11, 12, 13, 1);
        due(code(5, 8), 1, 39, 39, 11, 12, 13, 1);
        due(code(6, 8), 1, 30, 30, 11, 12, 13, 1);
        due(code(7, 9, 8), 9, 38, 30, 11, 12, 13, 2);
        due(code(8), 255, 40, 30, 11, 12, 13, 0);
        due(code(9, 7), 7, 39, 30, 11, 12, 13, 1);
        due(code(10, 7), 7, 39, 30, 11, 12, 13, 1);
        due(code(11, 2, 200), 3, 39, 30, 11, 200, 13, 1);
        due(code(11, 0, 0), 3, 39, 0, 11, 12, 13, 1);
        due(code(12, 255), 2, 39, 30, 11, 12, 255, 1);
        due(code(13), 1, 39, 30, 11, 12, 12, 1);
        due(code(14, 1, 0), 3, 39, 30, 11, 12, 13, 1);
        due(code(15, 2, 0), 3, 39, 30, 11, 255, 13, 1);
        ChainUnwinder x = Check.one(13);
        x.begin(0, 0, 0, Integer.MIN_VALUE);
        Check.step(x);
        CHECK.is("A wraps", x.machine(5), Integer.MAX_VALUE);
    }

    private static void wordsAreRemembered() {
        ChainUnwinder x = run(1, 2, 1, 1, 3, 5, 15, 0, 6, 15, 0, 5, 15, 0, 0, 14, 1, 3, 4, 3, 2, 0);
        Check.steps(x, 4);
        CHECK.is("word SP + 6", x.machine(2), 12);
        Check.step(x);
        CHECK.is("word SP + 5", x.machine(2), 11);
        Check.step(x);
        CHECK.is("a word that nothing was done to", x.machine(2), 0);
        Check.steps(x, 3);
        CHECK.is("a word that was written", x.machine(2), 11);
        CHECK.is("SP", x.machine(1), 36);
        ChainUnwinder y = run(1, 1, 4, 1, 15, 2, 0, 3, 1, 15, 2, 0);
        Check.steps(y, 3);
        CHECK.is("the first word", y.machine(4), 255);
        Check.steps(y, 2);
        CHECK.is("a word below SP stays", y.machine(4), 11);
        int[] words = {0, 1, 20, 37, 38};
        for (int word : words) {
            ChainUnwinder z = run(3, 39 - word, 15, 1, 0, 14, 2, 0);
            Check.steps(z, 3);
            CHECK.is("a word of the first run", z.machine(3), 0);
            z.begin(7, 8, 9, 10);
            Check.steps(z, 2);
            CHECK.is("a run begins with all other words 0", z.machine(3), 0);
        }
    }

    private static void jumps() {
        ChainUnwinder x = Check.one(13, 10, 0, 12, 7, 9, 0);
        x.begin(0, 0, 0, 2);
        CHECK.is("13", Check.step(x), 1);
        CHECK.is("10, A is 1", Check.step(x), 0);
        CHECK.is("13", Check.step(x), 1);
        CHECK.is("10, A is 0", Check.step(x), 3);
        CHECK.is("12", Check.step(x), 5);
        CHECK.is("9", Check.step(x), 0);
        x.begin(0, 0, 0, 0);
        Check.step(x);
        CHECK.is("10, A is -1", Check.step(x), 0);
        ChainUnwinder y = run(9, 255);
        CHECK.is("9 255", Check.step(y), 255);
        CHECK.is("the run is not over, but there is no instruction", Check.step(y), STATE);
        CHECK.is("its place", y.machine(0), 255);
    }

    private static void callsAndReturns() {
        ChainUnwinder x = new ChainUnwinder();
        Check.put(x, 7, 4, 8, 0, 7, 7, 8, 8);
        x.function(0, 3);
        x.begin(1, 2, 3, 4);
        CHECK.is("calls 4, which is in no function", Check.step(x), 4);
        CHECK.is("calls 7", Check.step(x), 7);
        CHECK.is("three are under way", x.machine(6), 3);
        CHECK.is("call(0)", x.call(0), 6);
        CHECK.is("call(1)", x.call(1), 2);
        CHECK.is("call(2)", x.call(2), 255);
        CHECK.is("call(3)", x.call(3), NONE);
        CHECK.is("call(-1)", x.call(-1), NONE);
        CHECK.is("far", x.call(Integer.MAX_VALUE), NONE);
        CHECK.is("far", x.call(Integer.MIN_VALUE), NONE);
        CHECK.is("returns", Check.step(x), 6);
        CHECK.is("call(0)", x.call(0), 2);
        CHECK.is("returns", Check.step(x), 2);
        CHECK.is("the first one alone", x.call(0), 255);
        CHECK.is("over", Check.step(x), 255);
        CHECK.is("none is under way", x.machine(6), 0);
        CHECK.is("no call", x.call(0), NONE);
        // What returns is told by the word, whatever was called; the calls stay above -1.
        ChainUnwinder y = run(11, 1, 5, 1, 1, 8, 11, 1, 2, 1, 1, 8);
        CHECK.is("returns to what was put there", Check.steps(y, 3), 5);
        CHECK.is("it counts as a return", y.machine(6), 0);
        CHECK.is("once more", Check.step(y), 255);
        CHECK.is("not below 0", y.machine(6), 0);
        ChainUnwinder z = Check.one(1, 1, 8);
        int[] places = {-1, 256, Integer.MIN_VALUE, Integer.MAX_VALUE, 3};
        for (int place : places) {
            z.begin(0, place, 0, 0);
            CHECK.is("returns to " + place, Check.steps(z, 2), place);
            CHECK.is("there is nothing", Check.step(z), STATE);
            CHECK.is("it stays there", z.machine(0), place);
        }
    }

    private static void noWholeInstruction() {
        CHECK.is("16", Check.step(run(16, 0, 0)), STATE);
        CHECK.is("255", Check.step(run(255, 0, 0)), STATE);
        int[] withRegister = {1, 2, 11, 14, 15};
        for (int number : withRegister) {
            CHECK.is(number + " with r 3", Check.step(run(number, 3, 0)), STATE);
        }
        int[] cut = {1, 2, 3, 4, 7, 9, 10, 11, 12, 14, 15};
        for (int number : cut) {
            CHECK.is(number + " without a byte", Check.step(run(number)), STATE);
        }
        CHECK.is("11 1 without a byte", Check.step(run(11, 1)), STATE);
        ChainUnwinder x = run(0);
        CHECK.is("the end of the code", Check.step(x), 1);
        CHECK.is("nothing there", Check.step(x), STATE);
        CHECK.is("the place stays", Check.state(x), 1, 39, 30, 11, 12, 13, 1);
        ChainUnwinder y = new ChainUnwinder();
        Check.put(y, 12, 7, 13);
        y.function(0, 1);
        y.begin(0, 0, 0, 0);
        CHECK.is("bytes behind the function", Check.step(y), 2);
        CHECK.is("a place in no function", Check.step(y), 3);
        CHECK.is("A", y.machine(5), 6);
        CHECK.is("no whole instruction before no stack", Check.step(run(1)), STATE);
    }

    /** The last of the steps is one that the stack does not reach for; nothing is done then. */
    private static void refused(int before, int fp, int... code) {
        ChainUnwinder x = Check.one(code);
        x.begin(fp, 11, 12, 13);
        Check.steps(x, before);
        java.util.List<Integer> was = Check.state(x);
        CHECK.is("step of " + code[2 * before], Check.step(x), INDEX);
        CHECK.is("nothing is done by " + code[2 * before], was.equals(Check.state(x)), true);
        CHECK.is("again", Check.step(x), INDEX);
    }

    private static void outOfTheStack() {
        refused(1, 0, 3, 39, 1, 1);
        refused(1, 0, 4, 1, 2, 1);
        refused(0, 0, 3, 40);
        refused(0, 0, 3, 255);
        refused(1, 0, 3, 39, 3, 1);
        refused(0, 0, 4, 2);
        refused(0, 0, 4, 255);
        refused(0, 41, 6);
        refused(0, -1, 6);
        refused(0, Integer.MAX_VALUE, 6);
        refused(0, Integer.MIN_VALUE, 6);
        refused(1, 0, 3, 39, 7, 0);
        refused(1, 0, 4, 1, 8);
        refused(0, 0, 14, 1, 1);
        refused(0, 0, 14, 1, 255);
        refused(1, 0, 4, 1, 14, 1, 0);
        refused(0, 0, 15, 1, 1);
        refused(0, 0, 15, 1, 255);
        refused(1, 0, 4, 1, 15, 1, 0);
        ChainUnwinder x = Check.one(6, 8);
        x.begin(40, 0, 0, 0);
        CHECK.is("SP may be 40", Check.step(x), 1);
        x.begin(0, 0, 0, 0);
        CHECK.is("SP may be 0", Check.step(x), 1);
        CHECK.is("word 0 is one", Check.step(x), 0);
        ChainUnwinder y = Check.one(3, 39, 14, 1, 39, 15, 2, 39);
        y.begin(0, 7, 8, 9);
        Check.steps(y, 3);
        CHECK.is("word 39 from SP 0", y.machine(4), 7);
        ChainUnwinder z = Check.one(3, 38, 1, 1, 15, 2, 0);
        z.begin(0, 7, 8, 9);
        Check.steps(z, 3);
        CHECK.is("word 0", z.machine(4), 7);
    }

    private static void tooManyCalls() {
        // Each call's word is dropped at once, so that the calls alone are too many.
        ChainUnwinder x = Check.one(7, 2, 4, 1, 9, 0);
        x.begin(0, 0, 0, 0);
        for (int i = 2; i <= 40; i++) {
            CHECK.is("call", Check.step(x), 2);
            CHECK.is("calls", x.machine(6), i);
            Check.steps(x, 2);
        }
        CHECK.is("one more", Check.step(x), INDEX);
        CHECK.is("nothing is done", Check.state(x), 0, 39, 0, 0, 0, 0, 40);
        CHECK.is("call(0)", x.call(0), 2);
        CHECK.is("call(39)", x.call(39), 255);
        CHECK.is("call(40)", x.call(40), NONE);
        // Here the words are too few first.
        ChainUnwinder y = Check.one(7, 0);
        y.begin(0, 0, 0, 0);
        CHECK.is("39 calls", Check.steps(y, 39), 0);
        CHECK.is("no word is left", Check.step(y), INDEX);
        CHECK.is("calls", y.machine(6), 40);
    }

    private static void whenItIsOver() {
        ChainUnwinder x = run(1, 1, 5, 2, 2, 8);
        CHECK.is("over", Check.steps(x, 4), 255);
        CHECK.is("no step", Check.step(x), STATE);
        CHECK.is("as it was then", Check.state(x), 255, 40, 38, 11, 11, 13, 0);
        ChainUnwinder y = run(7, 3, 0, 11, 1, 255, 1, 1, 8);
        CHECK.is("a return to 255 ends the run in any call", Check.steps(y, 4), 255);
        CHECK.is("no step", Check.step(y), STATE);
        CHECK.is("a call is under way still", y.machine(6), 1);
        CHECK.is("it is the first one", y.call(0), 255);
        CHECK.is("begin", y.begin(1, 2, 3, 4), true);
        CHECK.is("a new run", Check.step(y), 3);
    }

    private static void parts() {
        ChainUnwinder x = run(0, 8);
        CHECK.is("machine(-1)", x.machine(-1), NONE);
        CHECK.is("machine(7)", x.machine(7), NONE);
        CHECK.is("far", x.machine(Integer.MIN_VALUE), NONE);
        CHECK.is("far", x.machine(Integer.MAX_VALUE), NONE);
    }
}
