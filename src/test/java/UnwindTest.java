/** Promises 13 and 14: unwind, frame. */
public final class UnwindTest {
    private static final Check CHECK = new Check();
    private static final int NONE = Check.NONE;

    public static void main(String[] args) {
        theReadmeExample();
        framesWithRegisters();
        framesByFp();
        noFrames();
        parts();
        framesStay();
        noSuchFunction();
        malformedSection();
        wordsOutside();
        atMostTwenty();
        placesAre255();
        CHECK.end();
    }

    private static void theReadmeExample() {
        ChainUnwinder x = new ChainUnwinder();
        x.code(0x0100050708020008L, 8);
        x.code(0x08L, 1);
        x.function(0, 8);
        x.function(8, 9);
        CHECK.is("pack", x.pack(), 21);
        x.begin(7, 1, 2, 0);
        CHECK.is("step", Check.step(x), 2);
        CHECK.is("step", Check.step(x), 3);
        CHECK.is("step", Check.step(x), 8);
        CHECK.is("unwind", x.unwind(), 3);
        CHECK.is("frame 0", Check.frame(x, 0), 8, 37, 38, 1, 2);
        CHECK.is("frame 1", Check.frame(x, 1), 5, 38, 38, 1, 2);
        CHECK.is("frame 2", Check.frame(x, 2), 255, 40, 7, 1, 2);
        CHECK.is("frame 3", x.frame(3, 0), NONE);
    }

    private static void framesWithRegisters() {
        ChainUnwinder x = new ChainUnwinder();
        // 0: saves 1, sets it to 50, calls 11; 11: saves 2 and 1 and sets them.
        Check.put(x, 1, 1, 11, 1, 50, 7, 11, 2, 1, 8, 0);
        Check.put(x, 1, 2, 3, 1, 14, 1, 0, 11, 1, 60, 11, 2, 70, 15, 1, 0, 4, 1, 2, 2, 8);
        x.function(0, 10);
        x.function(11, 32);
        CHECK.is("pack", x.pack() > 0, true);
        x.begin(100, 101, 102, 0);
        CHECK.is("at once", x.unwind(), 2);
        CHECK.is("frame 0", Check.frame(x, 0), 0, 39, 100, 101, 102);
        CHECK.is("frame 1", Check.frame(x, 1), 255, 40, 100, 101, 102);
        CHECK.is("in 11", Check.steps(x, 8), 24);
        CHECK.is("unwind", x.unwind(), 3);
        CHECK.is("frame 0", Check.frame(x, 0), 24, 35, 100, 60, 70);
        CHECK.is("frame 1", Check.frame(x, 1), 7, 38, 100, 50, 102);
        CHECK.is("frame 2", Check.frame(x, 2), 255, 40, 100, 101, 102);
        CHECK.is("1 has been given back", Check.step(x), 27);
        CHECK.is("unwind", x.unwind(), 3);
        CHECK.is("frame 0", Check.frame(x, 0), 27, 35, 100, 50, 70);
        CHECK.is("frame 1", Check.frame(x, 1), 7, 38, 100, 50, 102);
        CHECK.is("back", Check.steps(x, 3), 7);
        CHECK.is("unwind", x.unwind(), 2);
        CHECK.is("frame 1", Check.frame(x, 1), 255, 40, 100, 101, 102);
    }

    private static void framesByFp() {
        // A function that calls itself as long as A is not 0, with FP as its link.
        ChainUnwinder x = Check.packed(1, 0, 5, 3, 2, 13, 10, 12, 6, 2, 0, 8, 7, 0, 6, 2, 0, 8);
        x.begin(77, 1, 2, 3);
        int calls = 0;
        for (int i = 0; i < 14; i++) {
            int was = x.machine(6);
            Check.step(x);
            calls += x.machine(6) - was;
            CHECK.is("a frame for each call", x.unwind(), x.machine(6) + 1);
            for (int k = 0; k < x.machine(6); k++) {
                CHECK.is("its place", x.frame(k + 1, 0), x.call(k));
            }
            CHECK.is("FP before the run", x.frame(x.machine(6), 2), 77);
        }
        CHECK.is("two calls", calls, 2);
        CHECK.is("frame 2 of the deepest", Check.frame(x, 2), 14, 36, 38, 1, 2);
    }

    private static void noFrames() {
        ChainUnwinder x = Check.packed(0, 8);
        CHECK.is("no run", x.unwind(), NONE);
        x.begin(0, 0, 0, 0);
        CHECK.is("frames only behind unwind", x.frame(0, 0), NONE);
        CHECK.is("unwind", x.unwind(), 2);
        Check.steps(x, 2);
        CHECK.is("the frames of the latest unwinding", x.frame(1, 0), 255);
        CHECK.is("over", x.unwind(), NONE);
        CHECK.is("no frames", x.frame(0, 0), NONE);
        CHECK.is("no frames", x.frame(1, 0), NONE);
    }

    private static void parts() {
        ChainUnwinder x = Check.packed(0, 8);
        x.begin(5, 6, 7, 8);
        x.unwind();
        CHECK.is("frame(-1)", x.frame(-1, 0), NONE);
        CHECK.is("frame(2)", x.frame(2, 0), NONE);
        CHECK.is("what -1", x.frame(0, -1), NONE);
        CHECK.is("what 5", x.frame(0, 5), NONE);
        CHECK.is("what 5 of the last", x.frame(1, 5), NONE);
        CHECK.is("far", x.frame(Integer.MAX_VALUE, Integer.MAX_VALUE), NONE);
        CHECK.is("far", x.frame(Integer.MIN_VALUE, 0), NONE);
        CHECK.is("far", x.frame(0, Integer.MIN_VALUE), NONE);
        CHECK.is("one that wraps", x.frame(Integer.MAX_VALUE / 5 * 4, 0), NONE);
        CHECK.is("frame 0", Check.frame(x, 0), 0, 39, 5, 6, 7);
    }

    private static void framesStay() {
        ChainUnwinder x = Check.packed(0, 8);
        x.begin(5, 6, 7, 8);
        x.unwind();
        x.clear();
        Check.put(x, 0, 8);
        x.function(1, 2);
        x.pack();
        x.begin(1, 1, 1, 1);
        CHECK.is("frame 0 of the latest unwinding", Check.frame(x, 0), 0, 39, 5, 6, 7);
    }

    private static void noSuchFunction() {
        ChainUnwinder x = new ChainUnwinder();
        Check.put(x, 7, 3, 8, 7, 7, 8, 0, 8);
        x.function(0, 3);
        x.function(3, 6);
        x.function(7, 8);
        CHECK.is("pack", x.pack(), 12);
        x.begin(0, 0, 0, 0);
        Check.steps(x, 2);
        CHECK.is("unwind", x.unwind(), 4);
        x.poke(6, 4);
        CHECK.is("the caller's place is there still", x.unwind(), 4);
        x.poke(7, 1);
        CHECK.is("the caller's place is not", x.unwind(), NONE);
        CHECK.is("no frames", x.frame(0, 0), NONE);
        x.poke(7, 3);
        CHECK.is("it is again", x.unwind(), 4);
        x.poke(10, 8);
        CHECK.is("the machine's place is not", x.unwind(), NONE);
    }

    private static void malformedSection() {
        ChainUnwinder x = new ChainUnwinder();
        Check.put(x, 7, 5, 0, 0, 8, 3, 1, 4, 1, 8);
        x.function(0, 5);
        x.function(5, 10);
        CHECK.is("pack", x.pack(), 14);
        CHECK.is("the second function's program", x.section(8), 66);
        x.begin(0, 0, 0, 0);
        CHECK.is("unwind", x.unwind(), 2);
        x.poke(8, 1);
        CHECK.is("a program that is not read", x.unwind(), 2);
        Check.step(x);
        CHECK.is("a malformed program", x.unwind(), NONE);
        x.poke(8, 66);
        CHECK.is("whole again", x.unwind(), 3);
        x.poke(5, 99);
        CHECK.is("a malformed count", x.unwind(), NONE);
        x.poke(5, 8);
        x.poke(1, 1);
        CHECK.is("a malformed count before it", x.unwind(), NONE);
    }

    private static void wordsOutside() {
        ChainUnwinder x = Check.packed(3, 1, 1, 1, 2, 1, 4, 1, 8);
        CHECK.is("section", Check.sectionOf(x),
                0, 17, 0, 9, 66, 14, 2, 66, 14, 3, 129, 3, 66, 14, 2, 193, 66, 14, 1);
        x.begin(0, 9, 0, 0);
        Check.steps(x, 2);
        CHECK.is("unwind", x.unwind(), 2);
        x.poke(9, 4);
        CHECK.is("word 40", x.unwind(), NONE);
        x.poke(9, 255);
        CHECK.is("far above", x.unwind(), NONE);
        x.poke(9, 3);
        x.poke(11, 40);
        CHECK.is("register 1 in word 0", x.unwind(), 2);
        CHECK.is("it is 0", x.frame(1, 3), 0);
        x.poke(11, 41);
        CHECK.is("register 1 in word -1", x.unwind(), NONE);
        x.poke(11, 1);
        CHECK.is("register 1 in the word to return to", x.unwind(), 2);
        CHECK.is("it is 255", x.frame(1, 3), 255);
        x.poke(11, 3);
        x.poke(8, 13);
        x.poke(9, 1);
        x.begin(-2, 9, 0, 0);
        Check.steps(x, 2);
        CHECK.is("word -1 by FP", x.unwind(), NONE);
    }

    private static void atMostTwenty() {
        ChainUnwinder x = Check.packed(7, 0, 8);
        x.begin(0, 0, 0, 0);
        for (int frames = 2; frames <= 20; frames++) {
            CHECK.is("frames", x.unwind(), frames);
            CHECK.is("the last one", x.frame(frames - 1, 0), 255);
            CHECK.is("the first one", x.frame(0, 0), 0);
            Check.step(x);
        }
        CHECK.is("a frame more", x.unwind(), NONE);
        CHECK.is("no frames", x.frame(0, 0), NONE);
        // FP was 3, and is told to be the place to return to, from which FP is not given back.
        ChainUnwinder y = Check.packed(1, 0, 5, 6, 2, 0, 8);
        y.begin(3, 0, 0, 0);
        Check.steps(y, 2);
        CHECK.is("unwind", y.unwind(), 2);
        y.poke(6, 1);
        y.poke(8, 0);
        CHECK.is("round and round", y.unwind(), NONE);
    }

    private static void placesAre255() {
        ChainUnwinder x = Check.packed(0, 8);
        x.clear();
        Check.put(x, 9, 255);
        x.function(0, 2);
        x.begin(3, 4, 5, 6);
        Check.step(x);
        CHECK.is("frame 0 is the one with 255", x.unwind(), 1);
        CHECK.is("it has the machine's registers", Check.frame(x, 0), 255, 39, 3, 4, 5);
        // Register FP as the link, with numbers whose sum wraps.
        ChainUnwinder y = Check.packed(1, 0, 5, 11, 0, 7, 2, 0, 8);
        y.poke(5, 12);
        y.poke(6, 1);
        y.poke(7, 255);
        y.poke(8, 0);
        int[] fps = {Integer.MAX_VALUE, Integer.MIN_VALUE, -1, 0, -255, -215};
        for (int fp : fps) {
            y.begin(fp, 0, 0, 0);
            Check.step(y);
            CHECK.is("BASE from FP " + fp, y.unwind(), fp == -215 ? 2 : NONE);
        }
    }
}
