import java.util.ArrayList;
import java.util.List;

/** The edges of runs (promises 9 to 12), each with a test of its own: begin, step, machine, call. */
public final class EdgeRunTest {
    private static final Check CHECK = new Check();
    private static final int NONE = Check.NONE;
    private static final int STATE = Check.STATE;
    private static final int INDEX = Check.INDEX;
    private static final int FARTHEST = Integer.MAX_VALUE;
    private static final int LOWEST = Integer.MIN_VALUE;
    private static final int[] SIZES = {1, 2, 2, 2, 2, 1, 1, 2, 1, 2, 2, 3, 2, 1, 3, 3};

    public static void main(String[] args) {
        beginsAtTheFirstFunction();
        beginsWithAnyNumbers();
        beginsWithAllOtherWords0();
        beginsWithOneCall();
        beginsAnewAtAnyTime();
        beginNeedsAFunction();
        pushFromFirstToLastWord();
        popFromFirstToLastWord();
        reserveDownTo0();
        releaseUpTo40();
        frameFromStackPointer();
        stackPointerFromFrame();
        callFromFirstToLastWord();
        returnFromFirstToLastWord();
        storeFromFirstToLastWord();
        loadFromFirstToLastWord();
        callsAreAtMost40();
        numbersAreBytes();
        aWraps();
        branchesIfAIsNot0();
        noRunIsUnderWay();
        noSuchInstruction();
        notWholeAtTheEndOfTheCode();
        placesBehindTheCode();
        anyPlaceToReturnTo();
        itNeedBeInNoFunction();
        notWholeComesBeforeTheStack();
        overWhenAReturnGoesTo255();
        notOverByOtherWays();
        afterItIsOver();
        machineIs0To6();
        machineWithoutARun();
        machineWhenItIsOver();
        callsAreNotBelow0();
        callsFromTheLatestOn();
        aCallThatIsRefused();
        askingLeavesAll();
        CHECK.end();
    }

    private static int[] join(int[] one, int... other) {
        int[] both = java.util.Arrays.copyOf(one, one.length + other.length);
        System.arraycopy(other, 0, both, one.length, other.length);
        return both;
    }

    /** A run whose SP is this one, and which is at this instruction, that begins at place 1. */
    private static ChainUnwinder at(int pointer, int... instruction) {
        ChainUnwinder x = Poked.watched(join(new int[] {6}, instruction));
        x.begin(pointer, 11, 12, 13);
        Check.step(x);
        return x;
    }

    /** It is refused, and the run goes on as if nothing had been done. */
    private static void refused(int pointer, int... instruction) {
        ChainUnwinder x = at(pointer, instruction);
        List<Integer> words = Poked.words(x);
        String what = "instruction " + instruction[0] + " with SP " + pointer;
        CHECK.is(what + " is refused", Check.step(x), INDEX);
        CHECK.is(what + ": the machine stays", Check.state(x), 1, pointer, pointer, 11, 12, 13, 1);
        CHECK.is(what + ": the words stay", Poked.words(x).equals(words), true);
        CHECK.is(what + ": its call stays", x.call(0), 255);
        CHECK.is(what + " is refused again", Check.step(x), INDEX);
    }

    /** It is done; only one word may be another one then (none if that is NONE). */
    private static ChainUnwinder done(int pointer, int word, int value, int... instruction) {
        ChainUnwinder x = at(pointer, instruction);
        List<Integer> words = Poked.words(x);
        String what = "instruction " + instruction[0] + " with SP " + pointer;
        int next = instruction[0] == 7 ? instruction[1] : 1 + SIZES[instruction[0]];
        CHECK.is(what + " is done", Check.step(x), next);
        if (word != NONE) {
            words.set(word, value);
        }
        if (word != 39) {
            CHECK.is(what + ": the words", Poked.words(x).equals(words), true);
        }
        return x;
    }

    private static void beginsAtTheFirstFunction() {
        for (int place = 0; place < 96; place += 19) {
            ChainUnwinder x = new ChainUnwinder();
            for (int i = 0; i < 12; i++) {
                x.code(0, 8);
            }
            x.function(place, place + 1);
            CHECK.is("begin", x.begin(1, 2, 3, 4), true);
            CHECK.is("state", Check.state(x), place, 39, 1, 2, 3, 4, 1);
            CHECK.is("step", Check.step(x), place + 1);
        }
    }

    private static void beginsWithAnyNumbers() {
        int[] numbers = {LOWEST, -1, 0, 1, FARTHEST};
        for (int number : numbers) {
            ChainUnwinder x = Check.one(8);
            CHECK.is("begin", x.begin(number, number, number, number), true);
            CHECK.is("state", Check.state(x), 0, 39, number, number, number, number, 1);
        }
    }

    private static List<Integer> firstWords() {
        List<Integer> words = new ArrayList<>();
        for (int word = 0; word < 39; word++) {
            words.add(0);
        }
        words.add(255);
        return words;
    }

    private static void beginsWithAllOtherWords0() {
        ChainUnwinder x = Poked.watched(1, 1, 9, 0);
        x.begin(5, 77, 6, 7);
        CHECK.is("a new run", Poked.words(x).equals(firstWords()), true);
        Check.steps(x, 78);
        CHECK.is("the stack is full", x.machine(1), 0);
        List<Integer> full = Poked.words(x);
        for (int word = 0; word < 39; word++) {
            CHECK.is("word " + word, full.get(word), 77);
        }
        CHECK.is("one more is refused", Check.step(x), INDEX);
        x.begin(5, 77, 6, 7);
        CHECK.is("a new run again", Poked.words(x).equals(firstWords()), true);
        // Word 39 is 255 again, too.
        ChainUnwinder y = Check.one(14, 1, 0, 2, 2);
        for (int i = 0; i < 2; i++) {
            y.begin(0, 77 + i, 0, 0);
            Check.steps(y, 2);
            CHECK.is("it was written", y.machine(4), 77 + i);
        }
        ChainUnwinder z = Check.one(15, 2, 0, 14, 1, 0);
        for (int i = 0; i < 2; i++) {
            z.begin(0, 77, 0, 0);
            Check.steps(z, 2);
            CHECK.is("it is 255 in a new run", z.machine(4), 255);
        }
    }

    private static void beginsWithOneCall() {
        ChainUnwinder x = Check.one(7, 0);
        x.begin(0, 0, 0, 0);
        Check.steps(x, 5);
        CHECK.is("six are under way", x.machine(6), 6);
        x.begin(0, 0, 0, 0);
        CHECK.is("one is", x.machine(6), 1);
        CHECK.is("call(0)", x.call(0), 255);
        CHECK.is("call(1)", x.call(1), NONE);
    }

    private static void beginsAnewAtAnyTime() {
        ChainUnwinder x = Twins.underWay();
        CHECK.is("while one is under way", x.begin(1, 2, 3, 4), true);
        CHECK.is("state", Check.state(x), 0, 39, 1, 2, 3, 4, 1);
        ChainUnwinder y = Twins.over();
        CHECK.is("when it is over", y.begin(1, 2, 3, 4), true);
        CHECK.is("state", Check.state(y), 0, 39, 1, 2, 3, 4, 1);
        CHECK.is("it goes on", Check.step(y), 2);
        ChainUnwinder z = Twins.underWay();
        z.code(0, 1);
        CHECK.is("behind code()", z.begin(1, 2, 3, 4), true);
        CHECK.is("it goes on", Check.step(z), 2);
    }

    private static ChainUnwinder cleared() {
        ChainUnwinder x = Twins.underWay();
        x.clear();
        x.code(8, 1);
        return x;
    }

    private static void beginNeedsAFunction() {
        CHECK.is("no code", new ChainUnwinder().begin(0, 0, 0, 0), false);
        ChainUnwinder x = new ChainUnwinder();
        x.code(8, 1);
        CHECK.is("code alone", x.begin(0, 0, 0, 0), false);
        x.function(0, 1);
        CHECK.is("one function", x.begin(0, 0, 0, 0), true);
        Twins.leaves(CHECK, "begin", EdgeRunTest::cleared, 0, y -> Twins.answer(y.begin(9, 9, 9, 9)));
        Twins.leaves(CHECK, "begin", ChainUnwinder::new, 0, y -> Twins.answer(y.begin(9, 9, 9, 9)));
    }

    private static void pushFromFirstToLastWord() {
        refused(0, 1, 1);
        for (int pointer = 1; pointer <= 39; pointer++) {
            ChainUnwinder x = done(pointer, pointer - 1, 12, 1, 2);
            CHECK.is("SP", Check.state(x), 3, pointer - 1, pointer, 11, 12, 13, 1);
        }
        ChainUnwinder x = at(40, 1, 2, 15, 1, 0);
        CHECK.is("word 39", Check.steps(x, 2), 6);
        CHECK.is("it is written", Check.state(x), 6, 39, 40, 12, 12, 13, 1);
    }

    private static void popFromFirstToLastWord() {
        refused(40, 2, 1);
        for (int pointer = 0; pointer <= 39; pointer++) {
            ChainUnwinder x = done(pointer, NONE, 0, 2, 1);
            int value = pointer == 39 ? 255 : 0;
            CHECK.is("SP", Check.state(x), 3, pointer + 1, pointer, value, 12, 13, 1);
        }
    }

    private static void reserveDownTo0() {
        for (int pointer = 0; pointer <= 40; pointer += 8) {
            ChainUnwinder x = done(pointer, NONE, 0, 3, pointer);
            CHECK.is("SP is 0", Check.state(x), 3, 0, pointer, 11, 12, 13, 1);
            refused(pointer, 3, pointer + 1);
            refused(pointer, 3, 255);
            done(pointer, NONE, 0, 3, 0);
        }
    }

    private static void releaseUpTo40() {
        for (int pointer = 0; pointer <= 40; pointer += 8) {
            ChainUnwinder x = done(pointer, NONE, 0, 4, 40 - pointer);
            CHECK.is("SP is 40", Check.state(x), 3, 40, pointer, 11, 12, 13, 1);
            refused(pointer, 4, 41 - pointer);
            refused(pointer, 4, 255);
            done(pointer, NONE, 0, 4, 0);
        }
    }

    private static void frameFromStackPointer() {
        int[] pointers = {0, 1, 39, 40};
        for (int pointer : pointers) {
            ChainUnwinder x = Check.one(6, 11, 0, 7, 5);
            x.begin(pointer, 11, 12, 13);
            CHECK.is("5", Check.steps(x, 3), 5);
            CHECK.is("FP is SP", Check.state(x), 5, pointer, pointer, 11, 12, 13, 1);
        }
    }

    private static void stackPointerFromFrame() {
        for (int fp = 0; fp <= 40; fp++) {
            ChainUnwinder x = Check.one(6);
            x.begin(fp, 11, 12, 13);
            CHECK.is("FP is " + fp, Check.step(x), 1);
            CHECK.is("SP", x.machine(1), fp);
        }
        int[] outside = {LOWEST, -41, -1, 41, 42, 255, 256, FARTHEST};
        for (int fp : outside) {
            ChainUnwinder x = Check.one(6);
            x.begin(fp, 11, 12, 13);
            CHECK.is("FP is " + fp, Check.step(x), INDEX);
            CHECK.is("nothing is done", Check.state(x), 0, 39, fp, 11, 12, 13, 1);
        }
    }

    private static void callFromFirstToLastWord() {
        refused(0, 7, 1);
        for (int pointer = 1; pointer <= 39; pointer++) {
            ChainUnwinder x = done(pointer, pointer - 1, 3, 7, 99);
            CHECK.is("SP", Check.state(x), 99, pointer - 1, pointer, 11, 12, 13, 2);
            CHECK.is("call(0)", x.call(0), 3);
        }
        ChainUnwinder x = at(40, 7, 3, 15, 1, 0);
        CHECK.is("word 39", Check.steps(x, 2), 6);
        CHECK.is("it is written", Check.state(x), 6, 39, 40, 3, 12, 13, 2);
    }

    private static void returnFromFirstToLastWord() {
        refused(40, 8);
        for (int pointer = 0; pointer <= 38; pointer++) {
            ChainUnwinder x = at(pointer, 8);
            CHECK.is("returns", Check.step(x), 0);
            CHECK.is("SP", Check.state(x), 0, pointer + 1, pointer, 11, 12, 13, 0);
            CHECK.is("no call", x.call(0), NONE);
        }
        CHECK.is("word 39", Check.step(at(39, 8)), 255);
    }

    private static void storeFromFirstToLastWord() {
        for (int pointer = 0; pointer <= 38; pointer++) {
            done(pointer, pointer, 11, 14, 1, 0);
            done(pointer, 38, 11, 14, 1, 38 - pointer);
            done(pointer, 39, 11, 14, 1, 39 - pointer);
        }
        for (int pointer = 0; pointer <= 40; pointer += 4) {
            refused(pointer, 14, 1, 40 - pointer);
            refused(pointer, 14, 1, 255);
        }
        ChainUnwinder x = at(0, 14, 1, 39, 15, 2, 39);
        CHECK.is("word 39", Check.steps(x, 2), 7);
        CHECK.is("it is written", Check.state(x), 7, 0, 0, 11, 11, 13, 1);
    }

    private static void loadFromFirstToLastWord() {
        for (int pointer = 0; pointer <= 39; pointer++) {
            ChainUnwinder x = done(pointer, NONE, 0, 15, 1, 39 - pointer);
            CHECK.is("word 39", Check.state(x), 4, pointer, pointer, 255, 12, 13, 1);
            ChainUnwinder y = done(pointer, NONE, 0, 15, 1, 0);
            CHECK.is("word SP", y.machine(3), pointer == 39 ? 255 : 0);
        }
        for (int pointer = 0; pointer <= 40; pointer += 4) {
            refused(pointer, 15, 1, 40 - pointer);
            refused(pointer, 15, 1, 255);
        }
    }

    private static void callsAreAtMost40() {
        // Each call's word is released at once.
        ChainUnwinder x = Poked.watched(7, 2, 4, 1, 9, 0);
        x.begin(1, 2, 3, 4);
        Check.steps(x, 3 * 38);
        CHECK.is("39 calls", x.machine(6), 39);
        CHECK.is("one more is done", Check.step(x), 2);
        CHECK.is("40 calls", x.machine(6), 40);
        Check.steps(x, 2);
        CHECK.is("one more is refused", Check.step(x), INDEX);
        CHECK.is("nothing is done", Check.state(x), 0, 39, 1, 2, 3, 4, 40);
        CHECK.is("its latest call", x.call(0), 2);
        CHECK.is("its first call", x.call(39), 255);
        CHECK.is("none is call 40", x.call(40), NONE);
        CHECK.is("again", Check.step(x), INDEX);
        // Behind a return there may be one more again.
        ChainUnwinder y = Check.one(13, 10, 5, 8, 0, 7, 0, 7, 3);
        y.begin(0, 0, 0, 40);
        Check.steps(y, 3 * 39);
        CHECK.is("40 calls by words, too", y.machine(6), 40);
        CHECK.is("A is 0", Check.steps(y, 2), 3);
        CHECK.is("returns", Check.step(y), 7);
        CHECK.is("39 calls", y.machine(6), 39);
        CHECK.is("one more is done", Check.step(y), 3);
        CHECK.is("40 calls again", y.machine(6), 40);
        CHECK.is("its place", y.call(0), 9);
    }

    private static void numbersAreBytes() {
        int[] bytes = {0, 127, 128, 255};
        for (int n : bytes) {
            ChainUnwinder x = Check.one(11, 1, n, 12, n);
            x.begin(-1, -1, -1, -1);
            Check.steps(x, 2);
            CHECK.is("11 1 n and 12 n", Check.state(x), 5, 39, -1, n, -1, n, 1);
            CHECK.is("9 n", Check.step(run(9, n)), n);
            CHECK.is("10 n", Check.step(run(10, n)), n);
            CHECK.is("7 n", Check.step(run(7, n)), n);
        }
    }

    private static ChainUnwinder run(int... code) {
        ChainUnwinder x = Check.one(code);
        x.begin(30, 11, 12, 13);
        return x;
    }

    private static void aWraps() {
        int[] numbers = {LOWEST, LOWEST + 1, -1, 0, 1, 256, FARTHEST};
        int[] fewer = {FARTHEST, LOWEST, -2, -1, 0, 255, FARTHEST - 1};
        for (int i = 0; i < numbers.length; i++) {
            ChainUnwinder x = Check.one(13);
            x.begin(0, 0, 0, numbers[i]);
            CHECK.is("13", Check.step(x), 1);
            CHECK.is("A is one less than " + numbers[i], x.machine(5), fewer[i]);
        }
    }

    private static void branchesIfAIsNot0() {
        int[] numbers = {LOWEST, -256, -1, 0, 1, 256, FARTHEST};
        for (int a : numbers) {
            ChainUnwinder x = Check.one(10, 77);
            x.begin(0, 0, 0, a);
            CHECK.is("A is " + a, Check.step(x), a == 0 ? 2 : 77);
            CHECK.is("A stays", x.machine(5), a);
        }
    }

    private static void noRunIsUnderWay() {
        CHECK.is("a new object", Check.step(new ChainUnwinder()), STATE);
        CHECK.is("none has begun", Check.step(Check.one(8)), STATE);
        CHECK.is("it is over", Check.step(Twins.over()), STATE);
        ChainUnwinder refused = new ChainUnwinder();
        refused.begin(0, 0, 0, 0);
        CHECK.is("begin was refused", Check.step(refused), STATE);
        Twins.leaves(CHECK, "step of none", ChainUnwinder::new, STATE, Check::step);
        Twins.leaves(CHECK, "step when it is over", Twins::over, STATE, Check::step);
    }

    private static void noSuchInstruction() {
        for (int number = 0; number < 256; number++) {
            ChainUnwinder x = run(number, 1, 0);
            CHECK.is("instruction " + number, Check.step(x) != STATE, number <= 15);
        }
        int[] withRegister = {1, 2, 11, 14, 15};
        for (int number : withRegister) {
            for (int r = 0; r < 256; r++) {
                ChainUnwinder x = run(number, r, 0);
                CHECK.is("instruction " + number + " with " + r, Check.step(x) != STATE, r <= 2);
            }
            CHECK.is("nothing is done", Check.state(stepped(run(number, 3, 0))), 0, 39, 30, 11, 12, 13, 1);
        }
    }

    private static ChainUnwinder stepped(ChainUnwinder x) {
        Check.step(x);
        return x;
    }

    private static void notWholeAtTheEndOfTheCode() {
        for (int number = 0; number < 16; number++) {
            for (int bytes = 1; bytes <= 3; bytes++) {
                // The last bytes of all the code there may be.
                ChainUnwinder x = new ChainUnwinder();
                for (int i = 0; i < 96 - bytes; i++) {
                    x.code(1, 1);
                }
                x.code((number * 65536L + 256) >> 8 * (3 - bytes), bytes);
                x.function(96 - bytes, 96);
                x.begin(30, 11, 12, 13);
                int answer = Check.step(x);
                CHECK.is(number + " in " + bytes + " bytes", answer != STATE, SIZES[number] <= bytes);
            }
        }
    }

    private static void placesBehindTheCode() {
        ChainUnwinder x = run(0);
        CHECK.is("to the end of the code", Check.step(x), 1);
        CHECK.is("nothing is there", Check.step(x), STATE);
        CHECK.is("it stays there", Check.state(x), 1, 39, 30, 11, 12, 13, 1);
        int[] places = {2, 95, 96, 254, 255};
        for (int place : places) {
            ChainUnwinder y = run(9, place);
            CHECK.is("to " + place, Check.step(y), place);
            CHECK.is("nothing is there", Check.step(y), STATE);
            CHECK.is("it stays there", Check.state(y), place, 39, 30, 11, 12, 13, 1);
        }
        // Code that was there before clear() is no code any more.
        ChainUnwinder z = Check.one(13, 13, 13, 13);
        z.clear();
        Check.put(z, 9, 3);
        z.function(0, 2);
        z.begin(0, 0, 0, 0);
        CHECK.is("to 3", Check.step(z), 3);
        CHECK.is("nothing is there", Check.step(z), STATE);
    }

    private static void anyPlaceToReturnTo() {
        int[] places = {LOWEST, -256, -1, 3, 95, 96, 254, 256, FARTHEST};
        for (int place : places) {
            ChainUnwinder x = Check.one(1, 1, 8);
            x.begin(30, place, 12, 13);
            CHECK.is("returns to " + place, Check.steps(x, 2), place);
            CHECK.is("nothing is there", Check.step(x), STATE);
            CHECK.is("it stays there", Check.state(x), place, 39, 30, place, 12, 13, 0);
        }
    }

    private static void itNeedBeInNoFunction() {
        ChainUnwinder x = new ChainUnwinder();
        Check.put(x, 13, 9, 0, 12, 7, 13, 0);
        x.function(3, 4);
        x.begin(0, 0, 0, 0);
        CHECK.is("its bytes lie behind the function", Check.step(x), 5);
        CHECK.is("12 7", x.machine(5), 7);
        CHECK.is("behind the function", Check.step(x), 6);
        CHECK.is("13", x.machine(5), 6);
        ChainUnwinder y = new ChainUnwinder();
        Check.put(y, 13, 13, 9, 0);
        y.function(2, 4);
        y.begin(0, 0, 0, 0);
        CHECK.is("before the function", Check.steps(y, 2), 1);
        // A jump may go into the middle of another instruction.
        CHECK.is("into the middle", Check.steps(run(9, 3, 12, 13, 0), 2), 4);
    }

    private static void notWholeComesBeforeTheStack() {
        // With SP 40 or 0 each of these would be refused, if it were whole.
        CHECK.is("2 3", Check.step(at(40, 2, 3)), STATE);
        CHECK.is("1 3", Check.step(at(0, 1, 3)), STATE);
        CHECK.is("14 3 0", Check.step(at(40, 14, 3, 0)), STATE);
        CHECK.is("15 1", Check.step(at(40, 15, 1)), STATE);
        CHECK.is("3", Check.step(at(0, 3)), STATE);
        CHECK.is("7", Check.step(at(0, 7)), STATE);
    }

    private static void overWhenAReturnGoesTo255() {
        ChainUnwinder x = run(8);
        CHECK.is("the first call's", Check.step(x), 255);
        CHECK.is("over", Check.step(x), STATE);
        CHECK.is("not to be unwound", x.unwind(), NONE);
        // A return to a 255 that was pushed, within two calls.
        ChainUnwinder y = Check.one(7, 2, 1, 1, 8);
        y.begin(0, 255, 0, 0);
        CHECK.is("any other's", Check.steps(y, 3), 255);
        CHECK.is("over", Check.step(y), STATE);
        CHECK.is("not to be unwound", y.unwind(), NONE);
        CHECK.is("one call is left", Check.state(y), 255, 38, 0, 255, 0, 0, 1);
        int[] others = {254, 256, 511, -1};
        for (int place : others) {
            ChainUnwinder z = Poked.watched(1, 1, 8);
            z.begin(0, place, 0, 0);
            CHECK.is("to " + place, Check.steps(z, 2), place);
            CHECK.is("it is not over", z.unwind(), place == 254 ? 2 : NONE);
        }
    }

    private static void notOverByOtherWays() {
        int[][] ways = {{9, 255}, {10, 255}, {7, 255}};
        for (int[] way : ways) {
            ChainUnwinder x = run(way);
            CHECK.is("to 255", Check.step(x), 255);
            CHECK.is("nothing is there", Check.step(x), STATE);
            CHECK.is("but it is under way", x.unwind(), 1);
            CHECK.is("calls", x.machine(6), way[0] == 7 ? 2 : 1);
        }
    }

    private static void afterItIsOver() {
        ChainUnwinder x = Twins.over();
        List<Integer> was = Check.state(x);
        CHECK.is("as it was then", Check.state(x), 255, 40, 100, 101, 102, 102, 0);
        for (int i = 0; i < 3; i++) {
            CHECK.is("no step", Check.step(x), STATE);
        }
        CHECK.is("it stays", Check.state(x).equals(was), true);
        CHECK.is("no call", x.call(0), NONE);
    }

    private static void machineIs0To6() {
        ChainUnwinder x = Twins.underWay();
        int[] parts = {12, 36, 100, 50, 102, 103, 2};
        for (int what = -3; what < 12; what++) {
            CHECK.is("machine(" + what + ")", x.machine(what), what >= 0 && what <= 6 ? parts[what] : NONE);
        }
        CHECK.is("the lowest", x.machine(LOWEST), NONE);
        CHECK.is("the farthest", x.machine(FARTHEST), NONE);
    }

    private static void isWithoutARun(String what, ChainUnwinder x) {
        CHECK.is(what, Check.state(x), NONE, NONE, NONE, NONE, NONE, NONE, NONE);
        CHECK.is(what + ": no call", x.call(0), NONE);
    }

    private static void machineWithoutARun() {
        ChainUnwinder x = new ChainUnwinder();
        isWithoutARun("a new object", x);
        x.begin(1, 2, 3, 4);
        isWithoutARun("behind a begin that was refused", x);
        x.code(8, 1);
        isWithoutARun("behind code", x);
        x.function(0, 1);
        isWithoutARun("behind function", x);
        x.pack();
        isWithoutARun("behind pack", x);
        Check.step(x);
        isWithoutARun("behind a step that was refused", x);
        x.unwind();
        isWithoutARun("behind unwind", x);
        x.clear();
        isWithoutARun("behind clear", x);
    }

    private static void machineWhenItIsOver() {
        ChainUnwinder x = Twins.over();
        x.code(0, 1);
        x.function(19, 20);
        CHECK.is("behind code and function", Check.state(x), 255, 40, 100, 101, 102, 102, 0);
        x.clear();
        CHECK.is("behind clear", Check.state(x), 255, 40, 100, 101, 102, 102, 0);
        x.pack();
        CHECK.is("behind pack", Check.state(x), 255, 40, 100, 101, 102, 102, 0);
        // A run that was ended keeps its calls as they were.
        ChainUnwinder y = Twins.underWay();
        y.clear();
        CHECK.is("calls", y.machine(6), 2);
        CHECK.is("call(0)", y.call(0), 7);
        CHECK.is("call(1)", y.call(1), 255);
        CHECK.is("call(2)", y.call(2), NONE);
    }

    private static void callsAreNotBelow0() {
        // 0: pushes 0 and returns to it, again and again.
        ChainUnwinder x = Check.one(1, 1, 8);
        x.begin(5, 0, 7, 8);
        for (int i = 0; i < 4; i++) {
            CHECK.is("returns", Check.steps(x, 2), 0);
            CHECK.is("no call is under way", x.machine(6), 0);
            CHECK.is("no call", x.call(0), NONE);
        }
        // Behind that a call is the first one again.
        ChainUnwinder y = Check.one(11, 1, 6, 1, 1, 8, 1, 1, 10, 12, 0, 0, 7, 14, 0);
        y.begin(0, 0, 0, 1);
        CHECK.is("returns", Check.steps(y, 3), 6);
        CHECK.is("none", y.machine(6), 0);
        CHECK.is("calls", Check.steps(y, 3), 14);
        CHECK.is("one", y.machine(6), 1);
        CHECK.is("call(0)", y.call(0), 14);
        CHECK.is("call(1)", y.call(1), NONE);
    }

    private static void callsFromTheLatestOn() {
        ChainUnwinder x = Check.one(7, 2, 7, 4, 7, 6, 0);
        x.begin(0, 0, 0, 0);
        int[] places = {6, 4, 2, 255};
        for (int calls = 1; calls <= 4; calls++) {
            for (int i = -2; i <= 5; i++) {
                int due = i >= 0 && i < calls ? places[4 - calls + i] : NONE;
                CHECK.is("call " + i + " of " + calls, x.call(i), due);
            }
            Check.step(x);
        }
        CHECK.is("the lowest", x.call(LOWEST), NONE);
        CHECK.is("the farthest", x.call(FARTHEST), NONE);
        // It is the place that the call was made with, whatever its word has become.
        ChainUnwinder y = Check.one(7, 2, 14, 1, 0, 8);
        y.begin(0, 5, 0, 0);
        Check.steps(y, 2);
        CHECK.is("another word", y.call(0), 2);
    }

    /** Packed, unwound, and at a call for which no word is left. */
    private static ChainUnwinder withoutAWord() {
        ChainUnwinder x = new ChainUnwinder();
        Check.put(x, 3, 19, 7, 7, 4, 19, 8, 3, 19, 7, 0, 4, 19, 8);
        x.function(0, 7);
        x.function(7, 14);
        x.pack();
        x.begin(1, 2, 3, 4);
        Check.steps(x, 3);
        x.unwind();
        return x;
    }

    private static void aCallThatIsRefused() {
        CHECK.is("state", Check.state(withoutAWord()), 9, 0, 1, 2, 3, 4, 2);
        CHECK.is("frames", Check.frame(withoutAWord(), 1), 4, 20, 1, 2, 3);
        Twins.leaves(CHECK, "a call without a word", EdgeRunTest::withoutAWord, INDEX, Check::step);
        ChainUnwinder x = withoutAWord();
        Check.step(x);
        CHECK.is("two calls", x.machine(6), 2);
        CHECK.is("call(0)", x.call(0), 4);
        CHECK.is("call(1)", x.call(1), 255);
        CHECK.is("call(2)", x.call(2), NONE);
    }

    private static void askingLeavesAll() {
        for (int what = -1; what <= 7; what++) {
            int part = what;
            int due = Twins.underWay().machine(what);
            Twins.leaves(CHECK, "machine " + what, Twins::underWay, due, x -> x.machine(part));
        }
        int[] calls = {LOWEST, -1, 0, 1, 2, FARTHEST};
        for (int i : calls) {
            int due = Twins.underWay().call(i);
            Twins.leaves(CHECK, "call " + i, Twins::underWay, due, x -> x.call(i));
        }
    }
}
