/** The edges that promises 1 to 4 name, each with a test of its own: a new object, code, function, clear. */
public final class EdgeCodeTest {
    private static final Check CHECK = new Check();
    private static final int NONE = Check.NONE;
    private static final int FARTHEST = Integer.MAX_VALUE;
    private static final int LOWEST = Integer.MIN_VALUE;

    public static void main(String[] args) {
        aNewObjectHasNoCode();
        aNewObjectHasNoFunctions();
        aNewObjectHasAnEmptySection();
        aNewObjectHasNoRun();
        anObjectIsUsedFor512Calls();
        codeTakesOneToEightBytes();
        codeTakesTheLowestBytesTheHighestFirst();
        codeTakesNegativeNumbers();
        codeHasAtMost96Bytes();
        codeThatIsFullTakesNothing();
        codeEndsTheRun();
        codeThatIsRefusedDoesNothing();
        functionsAreAtMostFive();
        functionsHaveAPlaceOfTheCode();
        functionsHaveNoPlaceOutsideTheCode();
        functionsHaveNoPlaceOfAnother();
        functionsThatAdjoinAreTaken();
        functionsAreNumberedByTheirPlaces();
        functionEndsTheRun();
        functionThatIsRefusedDoesNothing();
        clearTellsHowManyFunctionsThereWere();
        clearLeavesNoCodeAndNoFunctions();
        clearLeavesTheSection();
        clearEndsTheRun();
        CHECK.end();
    }

    private static ChainUnwinder ofZeros(int n) {
        ChainUnwinder x = new ChainUnwinder();
        for (int i = 0; i < n; i++) {
            x.code(0, 1);
        }
        return x;
    }

    private static void aNewObjectHasNoCode() {
        CHECK.is("no place for a function", new ChainUnwinder().function(0, 1), NONE);
        CHECK.is("the first byte of the code", new ChainUnwinder().code(0, 1), 1);
    }

    private static void aNewObjectHasNoFunctions() {
        CHECK.is("clear", new ChainUnwinder().clear(), 0);
        CHECK.is("pack", new ChainUnwinder().pack(), 0);
        CHECK.is("begin", new ChainUnwinder().begin(1, 2, 3, 4), false);
        ChainUnwinder x = ofZeros(1);
        CHECK.is("the first function", x.function(0, 1), 1);
    }

    private static void aNewObjectHasAnEmptySection() {
        ChainUnwinder x = new ChainUnwinder();
        CHECK.is("section(0)", x.section(0), NONE);
        CHECK.is("poke(0, 0)", x.poke(0, 0), false);
        int[] places = {LOWEST, -1, 0, 95, 255, FARTHEST};
        for (int place : places) {
            CHECK.is("an empty section is not malformed", Check.wholeRow(x, place), NONE, NONE, NONE, NONE, NONE);
        }
    }

    private static void aNewObjectHasNoRun() {
        ChainUnwinder x = new ChainUnwinder();
        CHECK.is("step", Check.step(x), Check.STATE);
        CHECK.is("machine", Check.state(x), NONE, NONE, NONE, NONE, NONE, NONE, NONE);
        CHECK.is("call", x.call(0), NONE);
        CHECK.is("unwind", x.unwind(), NONE);
        CHECK.is("frame", Check.frame(x, 0), NONE, NONE, NONE, NONE, NONE);
    }

    private static void anObjectIsUsedFor512Calls() {
        ChainUnwinder x = new ChainUnwinder();
        x.code(0x07000800L, 4);
        x.function(0, 3);
        x.pack();
        x.begin(1, 2, 3, 4);
        for (int call = 5; call < 510; call++) {
            x.poke(3, 3);
        }
        CHECK.is("call 510", Check.step(x), 0);
        CHECK.is("call 511", x.unwind(), 3);
        CHECK.is("call 512", x.frame(1, 0), 2);
    }

    private static void codeTakesOneToEightBytes() {
        for (int n = -2; n <= 11; n++) {
            CHECK.is("n is " + n, new ChainUnwinder().code(0, n), n >= 1 && n <= 8 ? n : NONE);
        }
        int[] far = {LOWEST, LOWEST + 1, FARTHEST, FARTHEST - 1, 256 + 1, 65536 + 8};
        for (int n : far) {
            CHECK.is("n is " + n, new ChainUnwinder().code(0, n), NONE);
        }
    }

    /** Each second byte is the one that A becomes; where it is the first, 12 is put before it. */
    private static void codeTakesTheLowestBytesTheHighestFirst() {
        long bytes = 0x0cf10cb20c930c74L;
        for (int n = 1; n <= 8; n++) {
            ChainUnwinder x = new ChainUnwinder();
            if (n % 2 == 1) {
                x.code(12, 1);
            }
            int length = x.code(bytes, n);
            x.function(0, length);
            x.begin(0, 0, 0, 0);
            for (int i = (n - 1) / 2; i >= 0; i--) {
                Check.step(x);
                CHECK.is("byte " + 2 * i + " of " + n, x.machine(5), (int) (bytes >>> 16 * i) & 255);
            }
            CHECK.is("there are no more of " + n, Check.step(x), Check.STATE);
        }
    }

    private static void codeTakesNegativeNumbers() {
        ChainUnwinder x = new ChainUnwinder();
        x.code(12, 1);
        CHECK.is("-1", x.code(-1L, 1), 2);
        CHECK.is("the lowest of all", x.code(Long.MIN_VALUE, 8), 10);
        x.function(0, 10);
        x.begin(0, 0, 0, 0);
        CHECK.is("12 255", Check.step(x), 2);
        CHECK.is("a byte is 0 .. 255", x.machine(5), 255);
        CHECK.is("its highest byte is 128, which is no instruction", Check.step(x), Check.STATE);
    }

    private static void codeHasAtMost96Bytes() {
        for (int n = 1; n <= 8; n++) {
            CHECK.is("96 with " + n, ofZeros(96 - n).code(0, n), 96);
            ChainUnwinder x = ofZeros(97 - n);
            CHECK.is("97 with " + n, x.code(0, n), NONE);
            if (n > 1) {
                CHECK.is("none of them was appended", x.code(0, n - 1), 96);
            }
        }
    }

    private static void codeThatIsFullTakesNothing() {
        ChainUnwinder x = ofZeros(95);
        x.code(13, 1);
        for (int n = 1; n <= 8; n++) {
            CHECK.is("full", x.code(0x0808080808080808L, n), NONE);
        }
        CHECK.is("the last byte", x.function(95, 96), 1);
        x.begin(0, 0, 0, 9);
        CHECK.is("it is done", Check.step(x), 96);
        CHECK.is("it is what it was", x.machine(5), 8);
        CHECK.is("there is none behind it", Check.step(x), Check.STATE);
    }

    private static void isOver(String what, ChainUnwinder x) {
        CHECK.is(what + ": all but the place is as it was", Check.state(x), 255, 36, 100, 50, 102, 103, 2);
        CHECK.is(what + ": no step", Check.step(x), Check.STATE);
        CHECK.is(what + ": no unwinding", x.unwind(), NONE);
    }

    private static void codeEndsTheRun() {
        ChainUnwinder x = Twins.underWay();
        CHECK.is("one byte", x.code(0, 1), 20);
        isOver("code", x);
    }

    private static void codeThatIsRefusedDoesNothing() {
        int[] wrong = {LOWEST, -1, 0, 9, FARTHEST};
        for (int n : wrong) {
            Twins.leaves(CHECK, "code of " + n, Twins::underWay, NONE, x -> x.code(0x0808080808080808L, n));
            Twins.leaves(CHECK, "code of " + n, ChainUnwinder::new, NONE, x -> x.code(0x0808080808080808L, n));
        }
        Twins.leaves(CHECK, "code that is full", Twins::full, NONE, x -> x.code(8, 1));
    }

    private static void functionsAreAtMostFive() {
        ChainUnwinder x = ofZeros(7);
        for (int i = 1; i <= 5; i++) {
            CHECK.is("function " + i, x.function(i, i + 1), i);
        }
        CHECK.is("a sixth one behind", x.function(6, 7), NONE);
        CHECK.is("a sixth one before", x.function(0, 1), NONE);
        CHECK.is("five", x.clear(), 5);
    }

    private static void functionsHaveAPlaceOfTheCode() {
        CHECK.is("no code", new ChainUnwinder().function(0, 0), NONE);
        for (int place = -1; place <= 4; place++) {
            CHECK.is("empty at " + place, ofZeros(3).function(place, place), NONE);
            CHECK.is("ends before " + place, ofZeros(3).function(place, place - 1), NONE);
        }
        for (int place = 0; place < 3; place++) {
            CHECK.is("one place, " + place, ofZeros(3).function(place, place + 1), 1);
        }
        CHECK.is("far backwards", ofZeros(3).function(FARTHEST, LOWEST), NONE);
        CHECK.is("0 to the lowest", ofZeros(3).function(0, LOWEST), NONE);
    }

    private static void functionsHaveNoPlaceOutsideTheCode() {
        CHECK.is("all of it", ofZeros(96).function(0, 96), 1);
        CHECK.is("the first place", ofZeros(96).function(0, 1), 1);
        CHECK.is("the last place", ofZeros(96).function(95, 96), 1);
        CHECK.is("one before, too", ofZeros(96).function(-1, 96), NONE);
        CHECK.is("one before alone", ofZeros(96).function(-1, 0), NONE);
        CHECK.is("one behind, too", ofZeros(96).function(0, 97), NONE);
        CHECK.is("one behind alone", ofZeros(96).function(96, 97), NONE);
        CHECK.is("all of a short code", ofZeros(3).function(0, 3), 1);
        CHECK.is("one behind a short code", ofZeros(3).function(0, 4), NONE);
        CHECK.is("from the lowest", ofZeros(3).function(LOWEST, 3), NONE);
        CHECK.is("to the farthest", ofZeros(3).function(0, FARTHEST), NONE);
        CHECK.is("from the lowest to the farthest", ofZeros(3).function(LOWEST, FARTHEST), NONE);
        ChainUnwinder x = ofZeros(3);
        x.clear();
        x.code(0, 1);
        CHECK.is("code that was cleared", x.function(0, 2), NONE);
    }

    private static void functionsHaveNoPlaceOfAnother() {
        for (int from = 0; from < 12; from++) {
            for (int end = from + 1; end <= 12; end++) {
                ChainUnwinder x = ofZeros(12);
                x.function(7, 9);
                x.function(3, 5);
                boolean free = end <= 3 || from >= 5 && end <= 7 || from >= 9;
                CHECK.is("from " + from + " to " + end, x.function(from, end), free ? 3 : NONE);
            }
        }
    }

    private static void functionsThatAdjoinAreTaken() {
        ChainUnwinder x = ofZeros(6);
        CHECK.is("in the middle", x.function(2, 4), 1);
        CHECK.is("just behind it", x.function(4, 6), 2);
        CHECK.is("just before it", x.function(0, 2), 3);
    }

    private static void functionsAreNumberedByTheirPlaces() {
        int[][] orders = {{1, 3, 5}, {1, 5, 3}, {3, 1, 5}, {3, 5, 1}, {5, 1, 3}, {5, 3, 1}};
        for (int[] order : orders) {
            ChainUnwinder x = new ChainUnwinder();
            x.code(0x0008000800080008L, 8);
            for (int i = 0; i < 3; i++) {
                CHECK.is("one more", x.function(order[i], order[i] + 1), i + 1);
            }
            CHECK.is("a run begins with the first one", x.begin(0, 0, 0, 0), true);
            CHECK.is("its place", x.machine(0), 1);
            CHECK.is("pack", x.pack(), 12);
            CHECK.is("section", Check.sectionOf(x), 0, 2, 1, 1, 0, 2, 3, 1, 0, 2, 5, 1);
        }
    }

    private static ChainUnwinder withRoomForAFunction() {
        ChainUnwinder x = new ChainUnwinder();
        Check.put(x, 1, 1, 11, 1, 50, 7, 10, 2, 1, 8, 1, 2, 8, 8);
        x.function(0, 10);
        x.begin(100, 101, 102, 103);
        Check.steps(x, 4);
        return x;
    }

    private static void functionEndsTheRun() {
        ChainUnwinder x = withRoomForAFunction();
        CHECK.is("in the place of the code", x.machine(0), 12);
        CHECK.is("one more", x.function(13, 14), 2);
        isOver("function", x);
    }

    private static void functionThatIsRefusedDoesNothing() {
        int[][] wrong = {{0, 0}, {19, 19}, {5, 4}, {-1, 1}, {18, 20}, {19, 20}, {0, 10}, {9, 11}, {12, 13},
            {LOWEST, FARTHEST}, {FARTHEST, LOWEST}};
        for (int[] pair : wrong) {
            Twins.leaves(CHECK, "function " + pair[0] + " " + pair[1], Twins::underWay, NONE,
                    x -> x.function(pair[0], pair[1]));
        }
        Twins.leaves(CHECK, "a sixth function", Twins::full, NONE, x -> x.function(5, 6));
    }

    private static void clearTellsHowManyFunctionsThereWere() {
        for (int functions = 0; functions <= 5; functions++) {
            ChainUnwinder x = ofZeros(6);
            for (int i = 0; i < functions; i++) {
                x.function(i, i + 1);
            }
            CHECK.is("clear", x.clear(), functions);
            CHECK.is("clear again", x.clear(), 0);
        }
    }

    private static void clearLeavesNoCodeAndNoFunctions() {
        ChainUnwinder x = Twins.full();
        x.clear();
        CHECK.is("no function", x.begin(0, 0, 0, 0), false);
        CHECK.is("no place", x.function(0, 1), NONE);
        for (int i = 1; i <= 12; i++) {
            CHECK.is("room for 96 bytes", x.code(0x0808080808080808L, 8), 8 * i);
        }
        for (int i = 1; i <= 5; i++) {
            CHECK.is("room for five functions", x.function(96 - i, 97 - i), i);
        }
    }

    private static void clearLeavesTheSection() {
        ChainUnwinder x = Twins.underWay();
        java.util.List<Integer> was = Check.sectionOf(x);
        x.poke(2, 7);
        was.set(2, 7);
        x.clear();
        CHECK.is("the section stays", Check.sectionOf(x).equals(was), true);
        CHECK.is("it can be read", Check.wholeRow(x, 12), 0, 2, 0, 2, 0);
        CHECK.is("it can be poked", x.poke(2, 0), true);
    }

    private static void clearEndsTheRun() {
        ChainUnwinder x = Twins.underWay();
        x.clear();
        isOver("clear", x);
        ChainUnwinder y = Twins.over();
        java.util.List<Integer> was = Check.state(y);
        y.clear();
        CHECK.is("a run that is over stays as it was", Check.state(y).equals(was), true);
        ChainUnwinder z = new ChainUnwinder();
        z.code(8, 1);
        z.function(0, 1);
        z.clear();
        CHECK.is("no run has been", Check.state(z), NONE, NONE, NONE, NONE, NONE, NONE, NONE);
    }
}
