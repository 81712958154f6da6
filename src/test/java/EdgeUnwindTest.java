import java.util.List;

/** The edges of unwinding (promises 13 and 14), each with a test of its own: unwind, frame. */
public final class EdgeUnwindTest {
    private static final Check CHECK = new Check();
    private static final int NONE = Check.NONE;
    private static final int FARTHEST = Integer.MAX_VALUE;
    private static final int LOWEST = Integer.MIN_VALUE;

    public static void main(String[] args) {
        noRunHasBegun();
        theRunIsOver();
        theFrameOf255IsOne();
        onlyFrameZeroHas255();
        atMost20Frames();
        moreThan20Frames();
        returnPlacesFromFirstToLastWord();
        savedRegistersFromFirstToLastWord();
        aRegisterThatIsNotSaved();
        theBaseByFp();
        theBaseByFpWraps();
        eachFrameHasItsOwnFp();
        noFunctionHasThePlace();
        noFunctionHasALaterPlace();
        placesOutsideAnyFunction();
        placesAbove255();
        theFirstFunctionThatHasIt();
        aMalformedProgram();
        aMalformedCount();
        aMalformedFunctionThatIsNotRead();
        anEmptySection();
        aFailureLeavesNoFrames();
        framesBeforeAnyUnwinding();
        framesFromFirstToLast();
        twentyFramesFromFirstToLast();
        whatIs0To4();
        fewerFramesThanBefore();
        framesOfTheLatestUnwinding();
        unwindingLeavesTheRun();
        askingLeavesAll();
        CHECK.end();
    }

    private static void fails(String what, ChainUnwinder x) {
        CHECK.is(what + " fails", x.unwind(), NONE);
        for (int i = 0; i < 3; i++) {
            CHECK.is(what + ": no frame " + i, Check.frame(x, i), NONE, NONE, NONE, NONE, NONE);
        }
    }

    /** A run with SP 38, in whose section byte 5 is n and bytes 7, 9 and 11 are s. */
    private static ChainUnwinder watchedRun(int n, int s0, int s1, int s2) {
        ChainUnwinder x = Poked.watched(1, 1, 0, 8);
        int[] numbers = {n, s0, s1, s2};
        for (int i = 0; i < 4; i++) {
            x.poke(5 + 2 * i, numbers[i]);
        }
        x.begin(31, 255, 33, 34);
        Check.step(x);
        return x;
    }

    private static void noRunHasBegun() {
        fails("a new object", new ChainUnwinder());
        fails("none has begun", Check.packed(0, 8));
    }

    private static void theRunIsOver() {
        fails("over by a return", Twins.over());
        ChainUnwinder x = Twins.underWay();
        x.code(0, 1);
        fails("over by code", x);
        ChainUnwinder y = new ChainUnwinder();
        Check.put(y, 0, 8, 8);
        y.function(0, 2);
        y.pack();
        y.begin(0, 0, 0, 0);
        CHECK.is("under way", y.unwind(), 2);
        y.function(2, 3);
        fails("over by function", y);
        ChainUnwinder z = Twins.underWay();
        z.clear();
        fails("over by clear", z);
    }

    private static void theFrameOf255IsOne() {
        ChainUnwinder x = Check.packed(0, 8);
        x.begin(1, 2, 3, 4);
        CHECK.is("one call", x.unwind(), 2);
        CHECK.is("frame 0", Check.frame(x, 0), 0, 39, 1, 2, 3);
        CHECK.is("frame 1", Check.frame(x, 1), 255, 40, 1, 2, 3);
    }

    private static void onlyFrameZeroHas255() {
        ChainUnwinder x = Check.packed(0, 8);
        x.clear();
        Check.put(x, 9, 255);
        x.function(0, 2);
        x.begin(1, 2, 3, 4);
        Check.step(x);
        CHECK.is("it has gone to 255 without a return", x.unwind(), 1);
        CHECK.is("frame 0", Check.frame(x, 0), 255, 39, 1, 2, 3);
        CHECK.is("no frame 1", Check.frame(x, 1), NONE, NONE, NONE, NONE, NONE);
    }

    private static ChainUnwinder ofCalls(int calls) {
        ChainUnwinder x = Check.packed(7, 0, 8);
        x.begin(1, 2, 3, 4);
        Check.steps(x, calls - 1);
        return x;
    }

    private static void atMost20Frames() {
        for (int calls = 1; calls <= 19; calls++) {
            ChainUnwinder x = ofCalls(calls);
            CHECK.is(calls + " calls", x.unwind(), calls + 1);
            CHECK.is("the last frame", Check.frame(x, calls), 255, 40, 1, 2, 3);
            CHECK.is("none behind it", Check.frame(x, calls + 1), NONE, NONE, NONE, NONE, NONE);
        }
    }

    private static void moreThan20Frames() {
        for (int calls = 20; calls <= 40; calls++) {
            fails(calls + " calls", ofCalls(calls));
        }
        // The same frame again and again: BASE is SP, and the word below it tells place 0.
        ChainUnwinder x = Poked.watched(3, 1, 0, 8);
        x.begin(1, 2, 3, 4);
        x.poke(5, 0);
        Check.step(x);
        fails("round and round", x);
    }

    private static void returnPlacesFromFirstToLastWord() {
        // SP is 38: BASE - 1 is 38, 39, 40 and more.
        CHECK.is("word 38", watchedRun(1, 0, 0, 0).unwind(), 2);
        CHECK.is("word 39", watchedRun(2, 0, 0, 0).unwind(), 2);
        fails("word 40", watchedRun(3, 0, 0, 0));
        fails("far above", watchedRun(255, 0, 0, 0));
        // With SP 0: BASE - 1 is 0 and -1.
        ChainUnwinder x = Poked.watched(6, 14, 1, 0, 0);
        x.begin(0, 255, 33, 34);
        Check.steps(x, 2);
        x.poke(5, 1);
        CHECK.is("word 0", x.unwind(), 2);
        CHECK.is("its frame", Check.frame(x, 1), 255, 1, 0, 255, 33);
        x.poke(5, 0);
        fails("word -1", x);
        x.poke(5, 40);
        CHECK.is("word 39 from SP 0", x.unwind(), 2);
        x.poke(5, 41);
        fails("word 40 from SP 0", x);
    }

    private static void savedRegistersFromFirstToLastWord() {
        for (int r = 0; r < 3; r++) {
            int[] s = new int[3];
            for (s[r] = 1; s[r] <= 40; s[r]++) {
                ChainUnwinder x = watchedRun(2, s[0], s[1], s[2]);
                CHECK.is("BASE - " + s[r], x.unwind(), 2);
                CHECK.is("register " + r, x.frame(1, 2 + r), s[r] <= 2 ? 255 : 0);
            }
            int[] outside = {41, 42, 128, 255};
            for (int far : outside) {
                s[r] = far;
                fails("BASE - " + far, watchedRun(2, s[0], s[1], s[2]));
            }
            // BASE is 39: its highest word is 38, its lowest is BASE - 39.
            s[r] = 39;
            CHECK.is("BASE - 39", watchedRun(1, s[0], s[1], s[2]).unwind(), 2);
            s[r] = 40;
            fails("BASE - 40", watchedRun(1, s[0], s[1], s[2]));
        }
    }

    private static void aRegisterThatIsNotSaved() {
        ChainUnwinder x = watchedRun(2, 0, 0, 0);
        x.unwind();
        CHECK.is("as in the frame before", Check.frame(x, 1), 255, 40, 31, 255, 33);
        int[] numbers = {LOWEST, -1, FARTHEST};
        for (int number : numbers) {
            ChainUnwinder y = Check.packed(0, 8);
            y.begin(number, number, number, 0);
            CHECK.is("unwind", y.unwind(), 2);
            CHECK.is("any number", Check.frame(y, 1), 255, 40, number, number, number);
        }
    }

    /** A run at place 1, whose section gives BASE by FP and n. */
    private static ChainUnwinder byFp(int fp, int n) {
        ChainUnwinder x = Poked.programOf(0, 255, 12, 1, n);
        x.clear();
        Check.put(x, 0, 8);
        x.function(0, 2);
        x.begin(fp, 2, 3, 4);
        Check.step(x);
        return x;
    }

    private static void theBaseByFp() {
        CHECK.is("40 and 0", byFp(40, 0).unwind(), 2);
        CHECK.is("38 and 2", byFp(38, 2).unwind(), 2);
        CHECK.is("0 and 40", byFp(0, 40).unwind(), 2);
        CHECK.is("-215 and 255", byFp(-215, 255).unwind(), 2);
        fails("41 and 0", byFp(41, 0));
        fails("40 and 1", byFp(40, 1));
        fails("0 and 0", byFp(0, 0));
        fails("-1 and 1", byFp(-1, 1));
        fails("-255 and 255", byFp(-255, 255));
        fails("-256 and 255", byFp(-256, 255));
    }

    private static void theBaseByFpWraps() {
        int[] fps = {FARTHEST, FARTHEST - 1, FARTHEST - 254, FARTHEST - 255, LOWEST, LOWEST + 1, LOWEST + 40};
        int[] numbers = {0, 1, 2, 40, 254, 255};
        for (int fp : fps) {
            for (int n : numbers) {
                fails("FP " + fp + " and " + n, byFp(fp, n));
            }
        }
    }

    private static void eachFrameHasItsOwnFp() {
        // Place 0 pushes FP, sets it, and calls itself; each frame's BASE is by the FP that it has.
        ChainUnwinder x = Check.packed(1, 0, 5, 3, 3, 7, 0, 6, 2, 0, 8);
        x.begin(77, 2, 3, 4);
        Check.steps(x, 4 * 3 + 3);
        CHECK.is("four calls", x.unwind(), 5);
        int[] fps = {23, 28, 33, 38, 77};
        for (int i = 0; i < 5; i++) {
            CHECK.is("FP of frame " + i, x.frame(i, 2), fps[i]);
        }
    }

    private static void noFunctionHasThePlace() {
        ChainUnwinder x = Check.packed(0, 8);
        x.begin(0, 0, 0, 0);
        CHECK.is("it has", x.unwind(), 2);
        x.poke(2, 1);
        fails("its first place is behind it", x);
        Check.step(x);
        CHECK.is("its first place", x.unwind(), 2);
        x.poke(2, 0);
        CHECK.is("its last place", x.unwind(), 2);
        x.poke(3, 1);
        fails("its last place is before it", x);
        x.poke(3, 0);
        fails("it has no place", x);
    }

    private static void noFunctionHasALaterPlace() {
        // The first function, from 0, calls the second, from 4; the place to return to is 2.
        ChainUnwinder x = new ChainUnwinder();
        Check.put(x, 7, 4, 8, 8, 8);
        x.function(0, 4);
        x.function(4, 5);
        CHECK.is("pack", x.pack(), 8);
        x.begin(0, 0, 0, 0);
        Check.step(x);
        CHECK.is("it has", x.unwind(), 3);
        x.poke(3, 3);
        CHECK.is("it is its last place", x.unwind(), 3);
        x.poke(3, 2);
        fails("it lies just behind", x);
        x.poke(2, 2);
        CHECK.is("it is its first place", x.unwind(), 3);
        x.poke(2, 3);
        fails("it lies just before", x);
    }

    private static void placesOutsideAnyFunction() {
        int[] places = {LOWEST, -1, 254, 256, 511, FARTHEST};
        for (int place : places) {
            ChainUnwinder x = Check.packed(1, 1, 2, 1, 8);
            // Its word, not the one that it was called with, tells where it returns to.
            x.poke(6, 1);
            x.begin(0, place, 0, 0);
            Check.step(x);
            fails("a place of " + place, x);
        }
        ChainUnwinder y = Check.packed(1, 1, 2, 1, 8);
        y.poke(6, 1);
        y.begin(0, 255, 0, 0);
        Check.step(y);
        CHECK.is("a place of 255", y.unwind(), 2);
        CHECK.is("its SP", y.frame(1, 1), 39);
    }

    private static void placesAbove255() {
        // Places 255 .. 509 are the section's; 255 itself is not looked for.
        ChainUnwinder x = Poked.programOf(255, 255);
        x.clear();
        Check.put(x, 1, 1, 8);
        x.function(0, 3);
        int[] places = {256, 509, 510};
        for (int place : places) {
            x.begin(0, place, 0, 0);
            CHECK.is("it is at " + place, Check.steps(x, 2), place);
            CHECK.is("frames", x.unwind(), place < 510 ? 2 : NONE);
        }
        CHECK.is("254 is none of them", unwoundAt(x, 254), NONE);
        x.begin(0, 255, 0, 0);
        CHECK.is("it is over at 255", Check.steps(x, 2), 255);
        fails("255", x);
    }

    private static int unwoundAt(ChainUnwinder x, int place) {
        x.begin(0, place, 0, 0);
        Check.steps(x, 2);
        return x.unwind();
    }

    private static void theFirstFunctionThatHasIt() {
        // Two have the place: by the first one BASE is 40, by the second one 39.
        ChainUnwinder x = Poked.section(0, 4, 0, 9, 14, 2, 0, 4, 0, 9, 14, 1);
        x.clear();
        Check.put(x, 1, 1, 8);
        x.function(0, 3);
        x.begin(0, 255, 0, 0);
        Check.step(x);
        CHECK.is("unwind", x.unwind(), 2);
        CHECK.is("by the first", x.frame(1, 1), 40);
        x.poke(3, 2);
        CHECK.is("unwind", x.unwind(), 2);
        CHECK.is("by the second", x.frame(1, 1), 39);
        x.poke(3, 9);
        x.poke(4, 1);
        fails("the first is malformed", x);
    }

    private static void aMalformedProgram() {
        int[][] programs = {{1}, {13, 2}, {12, 2, 1}, {131, 1}, {195}, {14}, {11}, {10, 10, 10, 10, 10}, {2, 255},
            {66, 1}};
        for (int[] program : programs) {
            ChainUnwinder x = Poked.programOf(0, 255, program);
            x.clear();
            Check.put(x, 0, 8);
            x.function(0, 2);
            x.begin(0, 0, 0, 0);
            fails("a program with " + program[0], x);
        }
        // It is a later frame's.
        ChainUnwinder y = new ChainUnwinder();
        Check.put(y, 7, 7, 3, 1, 4, 1, 8, 8);
        y.function(0, 7);
        y.function(7, 8);
        y.pack();
        y.begin(0, 0, 0, 0);
        Check.step(y);
        CHECK.is("whole", y.unwind(), 3);
        y.poke(4, 1);
        fails("a later frame's program", y);
    }

    private static void aMalformedCount() {
        int[] counts = {0, 1, 3, 255};
        for (int count : counts) {
            ChainUnwinder x = Check.packed(0, 8);
            x.begin(0, 0, 0, 0);
            CHECK.is("whole", x.unwind(), 2);
            x.poke(1, count);
            fails("a count of " + count, x);
            x.poke(1, 2);
            CHECK.is("whole again", x.unwind(), 2);
            x.poke(0, 1);
            fails("a higher byte", x);
        }
    }

    private static void aMalformedFunctionThatIsNotRead() {
        ChainUnwinder x = Poked.section(0, 3, 100, 1, 1, 0, 2, 0, 9, 0, 1, 99, 1);
        x.clear();
        Check.put(x, 0, 8);
        x.function(0, 2);
        x.begin(0, 0, 0, 0);
        CHECK.is("a program before, a count behind", x.unwind(), 2);
        x.poke(2, 0);
        fails("the program is read", x);
        x.poke(2, 100);
        x.poke(1, 1);
        fails("the count before", x);
    }

    private static void anEmptySection() {
        ChainUnwinder x = Check.one(0, 8);
        x.begin(0, 0, 0, 0);
        fails("an empty section", x);
        CHECK.is("pack", x.pack(), 4);
        CHECK.is("it is packed while the run is under way", x.unwind(), 2);
    }

    private static void aFailureLeavesNoFrames() {
        // No such function, a malformed section, a word outside for the place and for a register.
        int[][] pokes = {{3, 0}, {1, 9}, {5, 200}, {7, 250}, {9, 250}, {11, 250}};
        for (int[] poke : pokes) {
            ChainUnwinder x = watchedRun(2, 3, 3, 3);
            CHECK.is("frames", x.unwind(), 2);
            x.poke(poke[0], poke[1]);
            fails("byte " + poke[0] + " is " + poke[1], x);
        }
        ChainUnwinder y = ofCalls(19);
        CHECK.is("20 frames", y.unwind(), 20);
        Check.step(y);
        CHECK.is("one more", y.unwind(), NONE);
        for (int i = 0; i <= 20; i++) {
            CHECK.is("no frame " + i, Check.frame(y, i), NONE, NONE, NONE, NONE, NONE);
        }
        ChainUnwinder z = Twins.underWay();
        z.clear();
        CHECK.is("they are there still", z.frame(2, 0), 255);
        fails("no run", z);
    }

    private static void framesBeforeAnyUnwinding() {
        ChainUnwinder x = Check.packed(0, 8);
        x.begin(1, 2, 3, 4);
        Check.step(x);
        CHECK.is("frame 0", Check.frame(x, 0), NONE, NONE, NONE, NONE, NONE);
    }

    private static void framesFromFirstToLast() {
        ChainUnwinder x = Twins.underWay();
        int[] far = {LOWEST, -1, 3, 4, 19, 20, 429496729, 858993459, FARTHEST};
        for (int i : far) {
            CHECK.is("frame " + i, Check.frame(x, i), NONE, NONE, NONE, NONE, NONE);
        }
        CHECK.is("frame 0", Check.frame(x, 0), 12, 36, 100, 50, 102);
        CHECK.is("frame 1", Check.frame(x, 1), 7, 38, 100, 50, 102);
        CHECK.is("frame 2", Check.frame(x, 2), 255, 40, 100, 101, 102);
    }

    private static void twentyFramesFromFirstToLast() {
        ChainUnwinder x = ofCalls(19);
        x.unwind();
        CHECK.is("frame 0", Check.frame(x, 0), 0, 21, 1, 2, 3);
        for (int i = 1; i < 19; i++) {
            CHECK.is("frame " + i, Check.frame(x, i), 2, 21 + i, 1, 2, 3);
        }
        CHECK.is("frame 19", Check.frame(x, 19), 255, 40, 1, 2, 3);
        CHECK.is("frame 20", Check.frame(x, 20), NONE, NONE, NONE, NONE, NONE);
    }

    private static void whatIs0To4() {
        ChainUnwinder x = Twins.underWay();
        int[] parts = {7, 38, 100, 50, 102};
        for (int what = -6; what < 11; what++) {
            CHECK.is("what " + what, x.frame(1, what), what >= 0 && what <= 4 ? parts[what] : NONE);
        }
        CHECK.is("the lowest", x.frame(1, LOWEST), NONE);
        CHECK.is("the farthest", x.frame(1, FARTHEST), NONE);
    }

    private static void fewerFramesThanBefore() {
        ChainUnwinder x = Twins.underWay();
        CHECK.is("returned", Check.steps(x, 4), 7);
        CHECK.is("frame 2 stays", x.frame(2, 0), 255);
        CHECK.is("unwind", x.unwind(), 2);
        CHECK.is("frame 1", x.frame(1, 0), 255);
        CHECK.is("frame 2", x.frame(2, 0), NONE);
    }

    private static void framesOfTheLatestUnwinding() {
        ChainUnwinder x = Twins.underWay();
        Check.steps(x, 3);
        CHECK.is("behind steps", Check.frame(x, 0), 12, 36, 100, 50, 102);
        x.poke(0, 9);
        CHECK.is("behind poke", Check.frame(x, 1), 7, 38, 100, 50, 102);
        x.pack();
        x.begin(9, 9, 9, 9);
        CHECK.is("behind pack and begin", Check.frame(x, 2), 255, 40, 100, 101, 102);
        x.code(0, 1);
        x.function(19, 20);
        CHECK.is("behind code and function", Check.frame(x, 2), 255, 40, 100, 101, 102);
        x.clear();
        CHECK.is("behind clear", Check.frame(x, 2), 255, 40, 100, 101, 102);
        CHECK.is("unwind", x.unwind(), NONE);
        CHECK.is("behind unwind", Check.frame(x, 2), NONE, NONE, NONE, NONE, NONE);
    }

    private static void unwindingLeavesTheRun() {
        Twins.leaves(CHECK, "unwind", Twins::underWay, 3, ChainUnwinder::unwind);
        ChainUnwinder x = Twins.underWay();
        List<Integer> was = Check.state(x);
        x.poke(1, 0);
        fails("a malformed section", x);
        CHECK.is("the run stays", Check.state(x).equals(was), true);
        CHECK.is("its calls, too", x.call(0), 7);
        CHECK.is("it goes on", Check.step(x), 15);
    }

    private static void askingLeavesAll() {
        int[][] asked = {{0, 0}, {2, 4}, {3, 0}, {-1, 0}, {0, -1}, {0, 5}, {FARTHEST, FARTHEST}, {LOWEST, LOWEST}};
        for (int[] pair : asked) {
            int due = Twins.underWay().frame(pair[0], pair[1]);
            Twins.leaves(CHECK, "frame " + pair[0] + " " + pair[1], Twins::underWay, due,
                    x -> x.frame(pair[0], pair[1]));
        }
    }
}
