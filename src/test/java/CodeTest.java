/** Promises 2 to 4: code, function, clear. */
public final class CodeTest {
    private static final int NONE = Check.NONE;

    public static void main(String[] args) {
        Check check = new Check();
        codeTakesTheLowestBytesHighestFirst(check);
        codeRefuses(check);
        codeIsFullWith96(check);
        functionsAreCounted(check);
        functionsDoNotOverlap(check);
        functionsLieInTheCode(check);
        functionsAreNumberedByPlace(check);
        theRunIsOver(check);
        aRefusalLeavesTheRun(check);
        clearKeepsTheSection(check);
        check.end();
    }

    private static void codeTakesTheLowestBytesHighestFirst(Check check) {
        ChainUnwinder x = new ChainUnwinder();
        check.is("eight", x.code(0x0c010c020c030c04L, 8), 8);
        check.is("two of eight", x.code(0x77777777777711ffL << 8 | 12, 2), 10);
        check.is("one", x.code(-1L << 8 | 5, 1), 11);
        x.function(0, 11);
        x.begin(0, 0, 0, 9);
        int[] due = {1, 2, 3, 4};
        for (int a : due) {
            Check.step(x);
            check.is("A by the code", x.machine(5), a);
        }
        check.is("255 is no instruction", Check.step(x), Check.STATE);
        x.clear();
        x.code(0xff0cffL, 2);
        x.function(0, 2);
        x.begin(0, 0, 0, 0);
        check.is("12 255", Check.step(x), 2);
        check.is("A is 255, not -1", x.machine(5), 255);
        x.clear();
        x.code(0x8000000000000000L | 0x0cL << 48 | 0x7L << 40, 8);
        x.function(0, 8);
        check.is("the highest byte of all is first", x.pack(), -100);
    }

    private static void codeRefuses(Check check) {
        ChainUnwinder x = new ChainUnwinder();
        int[] wrong = {0, -1, 9, Integer.MIN_VALUE, Integer.MAX_VALUE};
        for (int n : wrong) {
            check.is("code of " + n, x.code(0x0808080808080808L, n), NONE);
        }
        check.is("nothing was appended", x.code(8, 1), 1);
    }

    private static void codeIsFullWith96(Check check) {
        ChainUnwinder x = new ChainUnwinder();
        for (int i = 1; i <= 11; i++) {
            check.is("eight more", x.code(0, 8), 8 * i);
        }
        check.is("five more", x.code(0, 5), 93);
        check.is("four are too many", x.code(0, 4), NONE);
        check.is("three are not", x.code(0, 3), 96);
        check.is("one is too many", x.code(0, 1), NONE);
        check.is("all of it a function", x.function(0, 96), 1);
        check.is("its end is found", x.pack(), -296);
    }

    private static void functionsAreCounted(Check check) {
        ChainUnwinder x = new ChainUnwinder();
        Check.put(x, 8, 8, 8, 8, 8, 8);
        for (int i = 0; i < 5; i++) {
            check.is("one more", x.function(i, i + 1), i + 1);
        }
        check.is("a sixth", x.function(5, 6), NONE);
        check.is("five", x.clear(), 5);
        check.is("none is left", x.clear(), 0);
    }

    private static void functionsDoNotOverlap(Check check) {
        ChainUnwinder x = new ChainUnwinder();
        Check.put(x, 8, 8, 8, 8, 8, 8, 8, 8);
        check.is("the first", x.function(2, 5), 1);
        check.is("the same", x.function(2, 5), NONE);
        check.is("inside", x.function(3, 4), NONE);
        check.is("around", x.function(1, 6), NONE);
        check.is("its first place", x.function(0, 3), NONE);
        check.is("its last place", x.function(4, 6), NONE);
        check.is("just behind", x.function(5, 6), 2);
        check.is("just before", x.function(0, 2), 3);
        check.is("between none", x.function(5, 8), NONE);
        check.is("the rest", x.function(6, 8), 4);
    }

    private static void functionsLieInTheCode(Check check) {
        ChainUnwinder x = new ChainUnwinder();
        Check.put(x, 8, 8, 8);
        check.is("empty", x.function(1, 1), NONE);
        check.is("backwards", x.function(2, 1), NONE);
        check.is("before", x.function(-1, 2), NONE);
        check.is("behind", x.function(2, 4), NONE);
        check.is("all behind", x.function(3, 4), NONE);
        check.is("empty at the end", x.function(3, 3), NONE);
        check.is("far", x.function(Integer.MIN_VALUE, Integer.MAX_VALUE), NONE);
        check.is("far backwards", x.function(Integer.MAX_VALUE, Integer.MIN_VALUE), NONE);
        check.is("the last place", x.function(2, 3), 1);
    }

    private static void functionsAreNumberedByPlace(Check check) {
        ChainUnwinder x = new ChainUnwinder();
        Check.put(x, 8, 0, 8, 8);
        x.function(3, 4);
        x.function(1, 3);
        x.function(0, 1);
        check.is("packed by places", x.pack(), 12);
        check.is("the section", Check.sectionOf(x), 0, 2, 0, 1, 0, 2, 1, 2, 0, 2, 3, 1);
        x.begin(0, 0, 0, 0);
        check.is("the run begins with the lowest", x.machine(0), 0);
    }

    private static void theRunIsOver(Check check) {
        for (int way = 0; way < 3; way++) {
            ChainUnwinder x = new ChainUnwinder();
            Check.put(x, 7, 2, 1, 1, 8);
            x.function(0, 4);
            x.begin(11, 12, 13, 14);
            Check.steps(x, 2);
            check.is("under way", x.machine(0), 4);
            check.is("done", way == 0 ? x.code(8, 1) : way == 1 ? x.function(4, 5) : x.clear(),
                    way == 0 ? 6 : way == 1 ? 2 : 1);
            check.is("no step", Check.step(x), Check.STATE);
            check.is("no unwinding", x.unwind(), NONE);
            check.is("but the place as it was", Check.state(x), 255, 37, 11, 12, 13, 14, 2);
            check.is("the calls too", x.call(0), 2);
        }
    }

    private static void aRefusalLeavesTheRun(Check check) {
        ChainUnwinder x = Check.one(0, 0, 8);
        x.begin(0, 0, 0, 0);
        check.is("code", x.code(0, 9), NONE);
        check.is("function", x.function(0, 1), NONE);
        check.is("the run goes on", Check.step(x), 1);
    }

    private static void clearKeepsTheSection(Check check) {
        ChainUnwinder x = Check.packed(0, 8);
        check.is("clear", x.clear(), 1);
        check.is("the section stays", Check.sectionOf(x), 0, 2, 0, 2);
        check.is("row", Check.row(x, 1, 1), 1);
        check.is("no function", x.begin(0, 0, 0, 0), false);
        check.is("no code", x.function(0, 1), NONE);
        check.is("code anew", x.code(8, 1), 1);
        check.is("function anew", x.function(0, 1), 1);
    }
}
