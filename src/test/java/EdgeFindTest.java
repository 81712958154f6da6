/** The edges of finding out (promise 5), each with a test of its own. */
public final class EdgeFindTest {
    private static final Check CHECK = new Check();
    private static final int[] SIZES = {1, 2, 2, 2, 2, 1, 1, 2, 1, 2, 2, 3, 2, 1, 3, 3};
    private static final int[] WITH_REGISTER = {1, 2, 11, 14, 15};

    public static void main(String[] args) {
        numbersAre0To15();
        bytesLieInTheFunction();
        registersAre0To2();
        notWholeComesFirst();
        theFunctionsEnd();
        whatIsKnownAtFirst();
        aRegisterIsSavedOnce();
        aSpoiltRegisterMustBeSaved();
        aSpoiltFpIsNotKnown();
        aRegisterIsGivenItsOwnWord();
        aRegisterIsGivenAnotherWord();
        fpIsGivenBack();
        wordsAreLostDownToOne();
        wordsAreLostDownToWhatIsSaved();
        poppingNeedsAWord();
        poppingLosesWhatIsSaved();
        goingBackNeedsAKnownFrame();
        goingBackNeedsAFrameNotAbove();
        goingBackLosesWhatIsSaved();
        wordsAreWrittenFrom2ToHeight();
        noSavedWordIsWritten();
        wordsAreReadBelowHeight();
        callsGoToFirstPlaces();
        returnsAreAsBeforeTheCall();
        jumpsInTheFunctionGoToInstructions();
        jumpsOutOfItAreAsReturns();
        branchesStayInTheFunction();
        instructionsBeginBehindWholeOnes();
        theHeightIsAtMost30();
        theHeightComesBeforeWhatIsBehind();
        theSameMustBeKnown();
        whereItGoesOnComesBeforeWhereItGoes();
        theLowestPlaceIsLookedAtFirst();
        functionsAreLookedAtByTheirNumbers();
        eachPlaceCanBeTold();
        CHECK.end();
    }

    private static void due(int answer, int... code) {
        CHECK.is(Check.text("pack of", code), Check.one(code).pack(), answer);
    }

    /** There is no fault. */
    private static void fine(int... code) {
        CHECK.is(Check.text("no fault in", code), Check.one(code).pack() > 0, true);
    }

    private static ChainUnwinder of(int[] code, int... bounds) {
        ChainUnwinder x = new ChainUnwinder();
        Check.put(x, code);
        for (int i = 0; i < bounds.length; i += 2) {
            if (x.function(bounds[i], bounds[i + 1]) == Check.NONE) {
                throw new AssertionError("the test's function is refused");
            }
        }
        return x;
    }

    private static int[] code(int... bytes) {
        return bytes;
    }

    private static int[] join(int[] one, int... other) {
        int[] both = java.util.Arrays.copyOf(one, one.length + other.length);
        System.arraycopy(other, 0, both, one.length, other.length);
        return both;
    }

    private static void numbersAre0To15() {
        for (int number = 0; number < 256; number++) {
            int answer = Check.one(number, 0, 0, 8).pack();
            CHECK.is("instruction " + number, answer != -100, number <= 15);
        }
    }

    private static void bytesLieInTheFunction() {
        for (int number = 0; number < 16; number++) {
            int size = SIZES[number];
            int[] bytes = {8, number, 0, 0, 8, 8};
            for (int end = 2; end <= 5; end++) {
                // What lies before the function does not count, nor does what lies behind it.
                int answer = of(bytes, 1, end).pack();
                CHECK.is(number + " in " + (end - 1) + " bytes", answer != -101, end - 1 >= size);
            }
        }
    }

    private static void registersAre0To2() {
        for (int number : WITH_REGISTER) {
            for (int r = 0; r < 256; r++) {
                int answer = Check.one(number, r, 0, 8).pack();
                CHECK.is("instruction " + number + " with register " + r, answer != -100, r <= 2);
            }
        }
        int[] withNumber = {3, 4, 7, 9, 10, 12};
        for (int number : withNumber) {
            int answer = Check.one(number, 3, 0, 8).pack();
            CHECK.is("instruction " + number + " with 3", answer != -100, true);
        }
    }

    private static void notWholeComesFirst() {
        // Register 3 would be fault 9 (1), 5 (2), 4 (11) or 8 (14, 15), if it were one.
        due(-102, 3, 29, 1, 3, 8);
        due(-100, 2, 3, 8);
        due(-100, 11, 3, 1, 8);
        due(-100, 14, 3, 9, 8);
        due(-100, 15, 3, 9, 8);
        // Half of a jump to nowhere.
        due(-101, 0, 9);
    }

    private static void theFunctionsEnd() {
        due(-201, 0);
        due(-203, 0, 0, 0);
        CHECK.is("though more code is behind", of(code(0, 0, 8), 0, 2).pack(), -202);
        CHECK.is("though a function is behind", of(code(0, 0, 8), 0, 2, 2, 3).pack(), -202);
        due(-202, 7, 0);
        due(-202, 10, 0);
        due(4, 8);
        due(4, 9, 0);
        due(4, 0, 10, 0, 8);
    }

    private static void whatIsKnownAtFirst() {
        due(4, 8);
        due(-500, 4, 1, 8);
        due(-500, 6, 8);
        for (int r = 0; r < 3; r++) {
            due(-400, 11, r, 0, 8);
        }
        // A second function begins with that as well, whatever the first one ended with.
        int[] saving = {1, 0, 1, 1, 1, 2, 5, 9, 7};
        CHECK.is("height", of(join(saving, 4, 1, 8), 0, 9, 9, 12).pack(), -509);
        CHECK.is("frame", of(join(saving, 6, 8), 0, 9, 9, 11).pack(), -509);
        for (int r = 0; r < 3; r++) {
            CHECK.is("register " + r, of(join(saving, 11, r, 0, 8), 0, 9, 9, 13).pack(), -409);
        }
    }

    private static void aRegisterIsSavedOnce() {
        for (int r = 0; r < 3; r++) {
            // Register r is in word BASE - 2, and only from there it is given back.
            due(-504, 1, r, 1, r, 4, 2, 8);
            fine(1, r, 1, r, 4, 1, 2, r, 8);
            fine(1, r, 1, r, 2, r, 2, r, 8);
            due(-507, 1, r, 1, r, 15, r, 0, 4, 2, 8);
            fine(1, r, 1, r, 15, r, 1, 4, 2, 8);
        }
    }

    private static void aSpoiltRegisterMustBeSaved() {
        for (int r = 0; r < 3; r++) {
            int other = (r + 1) % 3;
            due(-400, 11, r, 7, 8);
            due(-402, 1, other, 11, r, 7, 2, other, 8);
            fine(1, r, 11, r, 7, 2, r, 8);
            // Given back, it is not saved any more.
            due(-404, 1, r, 2, r, 11, r, 7, 8);
        }
        due(-400, 5, 8);
        due(-404, 1, 1, 1, 2, 5, 8);
        fine(1, 0, 5, 2, 0, 8);
    }

    private static void aSpoiltFpIsNotKnown() {
        due(-506, 1, 0, 5, 11, 0, 7, 6, 2, 0, 8);
        fine(1, 0, 5, 6, 2, 0, 8);
        // Other registers do not matter.
        fine(1, 1, 1, 0, 5, 11, 1, 7, 6, 2, 0, 2, 1, 8);
    }

    private static void aRegisterIsGivenItsOwnWord() {
        for (int r = 0; r < 3; r++) {
            fine(1, r, 2, r, 8);
            fine(1, r, 15, r, 0, 4, 1, 8);
            fine(3, 3, 14, r, 1, 15, r, 1, 4, 3, 8);
            // The word just above and just below are others.
            due(-508, 3, 3, 14, r, 1, 15, r, 0, 4, 3, 8);
            due(-508, 3, 3, 14, r, 1, 15, r, 2, 4, 3, 8);
        }
    }

    private static void aRegisterIsGivenAnotherWord() {
        for (int r = 0; r < 3; r++) {
            // It must be saved, and stays saved where it was.
            due(-402, 3, 1, 2, r, 8);
            due(-402, 3, 1, 15, r, 0, 4, 1, 8);
            fine(1, r, 3, 1, 2, r, 2, r, 8);
            fine(1, r, 3, 1, 15, r, 0, 15, r, 1, 4, 2, 8);
        }
        // FP is not known then, by 2 and by 15.
        due(-507, 1, 0, 3, 1, 5, 2, 0, 6, 2, 0, 8);
        due(-508, 1, 0, 3, 1, 5, 15, 0, 0, 6, 4, 1, 2, 0, 8);
    }

    private static void fpIsGivenBack() {
        due(-505, 1, 0, 5, 2, 0, 6, 8);
        due(-506, 1, 0, 5, 15, 0, 0, 6, 4, 1, 8);
    }

    private static void wordsAreLostDownToOne() {
        for (int height = 1; height <= 30; height++) {
            int[] reserve = {3, height - 1};
            fine(join(reserve, 4, height - 1, 8));
            due(-502, join(reserve, 4, height, 8));
            due(-502, join(reserve, 4, 255, 8));
        }
    }

    private static void wordsAreLostDownToWhatIsSaved() {
        for (int r = 0; r < 3; r++) {
            // Saved in word BASE - 3; the height is 6.
            int[] saving = {3, 1, 1, r, 3, 3};
            fine(join(saving, 4, 3, 2, r, 4, 1, 8));
            due(-506, join(saving, 4, 4, 8));
            fine(join(saving, 4, 0, 4, 3, 2, r, 4, 1, 8));
        }
        due(-506, 1, 0, 1, 1, 1, 2, 4, 1, 8);
    }

    private static void poppingNeedsAWord() {
        for (int r = 0; r < 3; r++) {
            // Fault 5 comes before fault 4: no register is saved here.
            due(-500, 2, r, 8);
            due(-402, 3, 1, 2, r, 8);
            due(-504, 1, r, 2, r, 2, r, 8);
        }
    }

    private static void poppingLosesWhatIsSaved() {
        // Register 1 is saved, but another one is in the topmost word.
        due(-504, 1, 1, 1, 2, 2, 1, 8);
        due(-504, 1, 1, 1, 0, 2, 1, 8);
        // Fault 4 comes before: the register that is given is not saved.
        due(-402, 1, 1, 2, 2, 8);
    }

    private static void goingBackNeedsAKnownFrame() {
        due(-500, 6, 8);
        due(-502, 1, 0, 6, 2, 0, 8);
        due(-505, 1, 0, 5, 2, 0, 6, 8);
    }

    private static void goingBackNeedsAFrameNotAbove() {
        // FP is BASE - 4; the height is 5, 4, and 3.
        fine(1, 0, 3, 2, 5, 3, 1, 6, 4, 2, 2, 0, 8);
        fine(1, 0, 3, 2, 5, 6, 4, 2, 2, 0, 8);
        due(-507, 1, 0, 3, 2, 5, 4, 1, 6, 4, 2, 2, 0, 8);
    }

    private static void goingBackLosesWhatIsSaved() {
        for (int r = 1; r < 3; r++) {
            // Register r is saved in BASE - 3: FP is just that, or one below.
            fine(1, 0, 1, r, 5, 3, 2, 6, 2, r, 2, 0, 8);
            due(-505, 1, 0, 5, 1, r, 6, 2, 0, 8);
        }
    }

    private static void wordsAreWrittenFrom2ToHeight() {
        for (int height = 1; height <= 30; height++) {
            for (int n = 0; n < 256; n++) {
                int answer = Check.one(3, height - 1, 14, 1, n, 15, 1, n, 4, height - 1, 8).pack();
                boolean written = n <= height - 2;
                CHECK.is("word SP + " + n + " at height " + height, answer > 0, written);
                CHECK.is("its fault", answer == -802, !written);
            }
        }
    }

    private static void noSavedWordIsWritten() {
        for (int r = 0; r < 3; r++) {
            for (int other = 0; other < 3; other++) {
                // Register r is in word BASE - 3, between two that are free.
                int[] saving = {3, 1, 1, r, 3, 1};
                due(-806, join(saving, 14, other, 1, 8));
                CHECK.is("above it", Check.one(join(saving, 14, other, 0, 9, 9)).pack() > 0, true);
                CHECK.is("below it", Check.one(join(saving, 14, other, 2, 9, 9)).pack() > 0, true);
            }
            // It may be written when the register has been given back.
            fine(1, r, 15, r, 0, 14, r, 0, 2, r, 8);
        }
    }

    private static void wordsAreReadBelowHeight() {
        for (int height = 2; height <= 30; height++) {
            for (int n = 0; n < 256; n++) {
                int answer = Check.one(1, 1, 3, height - 2, 15, 1, n, 9, 7).pack();
                CHECK.is("word SP + " + n + " at height " + height, answer > 0, n < height - 1);
                CHECK.is("its fault", answer == -804, n >= height - 1);
            }
        }
        due(-800, 15, 1, 0, 8);
        // Fault 8 comes before fault 4: register 1 is not saved.
        due(-802, 3, 1, 15, 1, 1, 4, 1, 8);
        due(-402, 3, 1, 15, 1, 0, 4, 1, 8);
    }

    private static void callsGoToFirstPlaces() {
        for (int q = 0; q < 256; q++) {
            int answer = of(code(0, 7, q, 8, 0, 0, 8, 8), 1, 4, 5, 7, 7, 8).pack();
            CHECK.is("call of " + q, answer, q == 1 || q == 5 || q == 7 ? 12 : -301);
        }
    }

    private static void returnsAreAsBeforeTheCall() {
        due(4, 8);
        due(-602, 3, 1, 8);
        fine(3, 1, 4, 1, 8);
        for (int r = 0; r < 3; r++) {
            due(-602, 1, r, 8);
            due(-605, 1, r, 15, r, 0, 8);
        }
    }

    private static void jumpsInTheFunctionGoToInstructions() {
        // Instructions begin at 1, 3, 4 and 6; another function's is 8.
        for (int q = 0; q < 256; q++) {
            int answer = of(code(0, 9, q, 0, 12, 0, 8, 0, 8), 1, 7, 8, 9).pack();
            boolean begins = q == 1 || q == 3 || q == 4 || q == 6 || q == 8;
            CHECK.is("jump to " + q, answer, begins ? 8 : -301);
        }
    }

    private static void jumpsOutOfItAreAsReturns() {
        CHECK.is("at height 1", of(code(9, 2, 8), 0, 2, 2, 3).pack(), 8);
        CHECK.is("at height 2", of(code(3, 1, 9, 4, 8), 0, 4, 4, 5).pack(), -602);
        CHECK.is("fault 3 comes before", of(code(3, 1, 9, 5, 8, 8), 0, 4, 4, 6).pack(), -302);
        for (int r = 0; r < 3; r++) {
            CHECK.is("saved", of(code(1, r, 9, 4, 8), 0, 4, 4, 5).pack(), -602);
        }
        // To its own first place it is no such jump.
        fine(0, 9, 0);
        due(-700, 3, 1, 9, 0);
    }

    private static void branchesStayInTheFunction() {
        for (int q = 0; q < 256; q++) {
            int answer = of(code(0, 10, q, 0, 12, 0, 8, 0, 8), 1, 7, 8, 9).pack();
            boolean begins = q == 1 || q == 3 || q == 4 || q == 6;
            CHECK.is("branch to " + q, answer, begins ? 8 : -301);
        }
    }

    private static void instructionsBeginBehindWholeOnes() {
        // An instruction begins at 2 that is not whole; none begins behind it.
        due(-102, 9, 2, 16, 8);
        due(-300, 9, 3, 16, 8);
        due(-300, 9, 3, 1, 3, 8);
        due(-300, 9, 4, 1, 3, 8);
        // The last byte of the function begins one that is not whole.
        due(-102, 9, 2, 12);
        due(-300, 9, 3, 12);
        // One that nothing goes to is passed over, and the next begins behind it.
        due(4, 9, 5, 11, 1, 7, 8);
        due(-300, 9, 4, 11, 1, 7, 8);
        due(-300, 9, 3, 11, 1, 7, 8);
    }

    private static void theHeightIsAtMost30() {
        for (int n = 0; n < 256; n++) {
            int answer = Check.one(3, n, 9, 2).pack();
            CHECK.is("3 " + n, answer > 0, n <= 29);
            CHECK.is("its fault", answer == -900, n > 29);
        }
        for (int r = 0; r < 3; r++) {
            fine(3, 28, 1, r, 9, 4);
            due(-902, 3, 29, 1, r, 9, 4);
        }
        fine(3, 29, 3, 0, 9, 4);
        due(-902, 3, 29, 3, 1, 9, 4);
        due(-902, 3, 29, 3, 255, 9, 4);
        // A call does not make it higher.
        fine(3, 29, 7, 0, 9, 4);
    }

    private static void theHeightComesBeforeWhatIsBehind() {
        // Behind the push there is the function's end, and another height is known.
        due(-902, 3, 29, 1, 1);
        due(-904, 10, 8, 3, 29, 1, 1, 9, 8, 8);
    }

    private static void theSameMustBeKnown() {
        // Height.
        due(-704, 10, 4, 3, 1, 8);
        fine(10, 4, 3, 0, 8);
        // FP known or not.
        due(-705, 1, 0, 10, 5, 5, 2, 0, 8);
        // FP known as BASE - 2 or as BASE - 3, at the same height.
        due(-712, 1, 0, 10, 9, 3, 1, 5, 9, 12, 5, 3, 1, 9, 12);
        fine(1, 0, 10, 9, 3, 1, 5, 9, 12, 3, 1, 5, 9, 12);
        for (int r = 0; r < 3; r++) {
            // Register r saved or not; saved in BASE - 2 or in BASE - 3.
            due(-708, 10, 6, 1, r, 9, 8, 3, 1, 9, 8);
            fine(10, 6, 1, r, 9, 8, 1, r, 9, 8);
            due(-712, 3, 2, 10, 9, 14, r, 0, 9, 12, 14, r, 1, 9, 12);
            fine(3, 2, 10, 9, 14, r, 1, 9, 12, 14, r, 1, 9, 12);
        }
        // Where it has been looked at, too.
        due(-700, 3, 1, 10, 0, 4, 1, 8);
        due(-702, 12, 1, 3, 1, 10, 2, 4, 1, 8);
        fine(12, 1, 3, 1, 4, 1, 10, 2, 8);
    }

    private static void whereItGoesOnComesBeforeWhereItGoes() {
        // At 6 it goes on to 8 and goes to 0, at both of which another height is known.
        due(-708, 10, 8, 3, 1, 12, 0, 10, 0, 8);
        due(-700, 10, 4, 3, 0, 3, 1, 10, 0, 8);
    }

    private static void theLowestPlaceIsLookedAtFirst() {
        // From 5 it goes on to 7 and goes to 2: both have a fault, the lower one is told.
        due(-402, 9, 5, 11, 1, 5, 10, 2, 6);
        // From 0 it goes on to 2 and goes to 5, which has a fault: first all that is lower.
        due(-403, 10, 6, 0, 11, 1, 5, 6);
        due(-506, 10, 6, 0, 12, 5, 8, 6);
    }

    private static void functionsAreLookedAtByTheirNumbers() {
        int[] both = {6, 11, 1, 5, 8};
        CHECK.is("the first one", of(both, 0, 1, 1, 5).pack(), -500);
        CHECK.is("the first one, made last", of(both, 1, 5, 0, 1).pack(), -500);
        CHECK.is("the second one", of(code(8, 11, 1, 5, 8), 1, 5, 0, 1).pack(), -401);
        CHECK.is("the fifth one", of(code(8, 8, 8, 8, 6), 0, 1, 1, 2, 2, 3, 3, 4, 4, 5).pack(), -504);
        CHECK.is("code in no function", of(code(6, 8, 6), 1, 2).pack(), 4);
    }

    /** Each fault at the highest place where it can be. */
    private static void eachPlaceCanBeTold() {
        int[][] last = {{16}, {0}, {7, 94}, {5}, {6}, {8}, {9, 0}, {14, 0, 0}, {3, 255}};
        int[] answers = {-195, -296, -394, -495, -595, -695, -700, -893, -994};
        for (int fault = 1; fault <= 9; fault++) {
            int[] bytes = new int[96];
            int[] end = last[fault - 1];
            boolean higher = fault == 6 || fault == 7;
            bytes[0] = higher ? 3 : 0;
            bytes[1] = higher ? 1 : 0;
            System.arraycopy(end, 0, bytes, 96 - end.length, end.length);
            CHECK.is("fault " + fault, Check.one(bytes).pack(), answers[fault - 1]);
        }
    }
}
