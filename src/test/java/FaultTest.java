/** Promise 5: each fault of finding out, and which one is told when there are several. */
public final class FaultTest {
    private static final Check CHECK = new Check();

    public static void main(String[] args) {
        notWhole();
        theEnd();
        targets();
        spoiltRegisters();
        lostWords();
        returns();
        notTheSame();
        words();
        height();
        order();
        severalFunctions();
        nothingIsLeftOfEarlierCode();
        theSectionStays();
        CHECK.end();
    }

    private static void due(int answer, int... code) {
        CHECK.is(Check.text("pack of", code), Check.one(code).pack(), answer);
    }

    private static void notWhole() {
        due(-100, 16, 8);
        due(-100, 255, 8);
        due(-101, 0, 77);
        int[] withRegister = {1, 2, 11, 14, 15};
        for (int number : withRegister) {
            due(-100, number, 3, 0, 8);
            due(-100, number, 255, 0, 8);
        }
        int[] twoBytes = {1, 2, 3, 4, 7, 9, 10, 12};
        for (int number : twoBytes) {
            due(-100, number);
        }
        int[] threeBytes = {11, 14, 15};
        for (int number : threeBytes) {
            due(-100, number);
            due(-101, 0, number, 1);
        }
        due(4, 8, 77);
        due(4, 9, 3, 8, 8);
        ChainUnwinder x = new ChainUnwinder();
        Check.put(x, 12, 8);
        x.function(0, 1);
        CHECK.is("its bytes lie in the code, not in the function", x.pack(), -100);
    }

    private static void theEnd() {
        due(-201, 0);
        due(-202, 12, 8);
        due(-202, 7, 0);
        due(-202, 10, 0);
        due(4, 8);
        due(4, 9, 0);
        ChainUnwinder x = new ChainUnwinder();
        Check.put(x, 0, 8);
        x.function(0, 1);
        x.function(1, 2);
        CHECK.is("the end is another function's first place", x.pack(), -201);
    }

    private static void targets() {
        due(4, 7, 0, 8);
        due(-300, 7, 2, 8);
        due(-300, 7, 3, 8);
        due(-300, 7, 255, 8);
        due(-300, 9, 1, 8);
        due(-300, 9, 2);
        due(-300, 9, 200);
        due(-302, 3, 1, 9, 200);
        due(4, 10, 0, 8);
        due(4, 10, 2, 8);
        due(-300, 10, 1, 8);
        due(-300, 10, 3, 8);
        due(-300, 9, 3, 77, 8);
        due(-102, 9, 2, 77, 8);
        due(-300, 9, 4, 1, 3, 8);
        ChainUnwinder x = new ChainUnwinder();
        Check.put(x, 7, 5, 9, 5, 77, 12, 0, 8);
        x.function(0, 4);
        CHECK.is("not yet a function", x.pack(), -300);
        x.function(5, 8);
        CHECK.is("called, then gone to", x.pack(), 8);
        x.clear();
        Check.put(x, 10, 3, 8, 8);
        x.function(0, 3);
        x.function(3, 4);
        CHECK.is("10 goes to no other function", x.pack(), -300);
        x.clear();
        Check.put(x, 9, 4, 0, 0, 8);
        x.function(0, 2);
        x.function(3, 5);
        CHECK.is("9 goes to no other function's middle", x.pack(), -300);
        x.clear();
        Check.put(x, 0, 9, 0, 8);
        x.function(1, 3);
        CHECK.is("before the function", x.pack(), -301);
    }

    private static void spoiltRegisters() {
        due(-400, 11, 0, 9, 8);
        due(-400, 11, 1, 9, 8);
        due(-400, 11, 2, 9, 8);
        due(-400, 5, 8);
        due(-402, 1, 1, 5, 2, 1, 8);
        due(-402, 1, 1, 2, 2, 8);
        due(-402, 1, 1, 11, 2, 7, 2, 1, 8);
        due(-402, 1, 1, 15, 2, 0, 2, 1, 8);
        due(-402, 3, 1, 15, 1, 0, 4, 1, 8);
        due(-402, 3, 1, 2, 1, 8);
        due(-404, 1, 1, 2, 1, 11, 1, 7, 8);
        due(13, 1, 1, 11, 1, 7, 2, 1, 8);
    }

    private static void lostWords() {
        due(-500, 4, 1, 8);
        due(-500, 4, 255, 8);
        due(4, 4, 0, 8);
        due(-500, 2, 1, 8);
        due(-500, 2, 0, 8);
        due(-500, 6, 8);
        for (int r = 0; r < 3; r++) {
            due(-502, 1, r, 4, 1, 8);
        }
        due(-502, 3, 3, 4, 4, 8);
        due(10, 3, 3, 4, 3, 8);
        due(-504, 1, 1, 1, 2, 2, 1, 8);
        due(-502, 1, 0, 6, 2, 0, 8);
        // FP is BASE - 4, but the height is 3.
        due(-507, 1, 0, 3, 2, 5, 4, 1, 6, 8);
        // Going back to FP would lose where register 1 is saved.
        due(-505, 1, 0, 5, 1, 1, 6, 2, 0, 8);
        // FP is given back, so it is not known any more.
        due(-506, 1, 0, 5, 15, 0, 0, 6, 8);
        // FP is spoilt, so it is not known any more.
        due(-506, 1, 0, 5, 11, 0, 4, 6, 2, 0, 8);
        due(-508, 1, 0, 5, 3, 1, 15, 0, 0, 6, 8);
        due(17, 1, 0, 5, 3, 5, 6, 2, 0, 8);
    }

    private static void returns() {
        due(-602, 3, 1, 8);
        due(-602, 1, 1, 8);
        due(-602, 1, 0, 8);
        ChainUnwinder x = new ChainUnwinder();
        Check.put(x, 1, 2, 9, 4, 8);
        x.function(0, 4);
        x.function(4, 5);
        CHECK.is("9 to another function is as a return", x.pack(), -602);
        x.clear();
        Check.put(x, 3, 1, 9, 4, 8);
        x.function(0, 4);
        x.function(4, 5);
        CHECK.is("with words left", x.pack(), -602);
    }

    private static void notTheSame() {
        due(-704, 10, 4, 3, 1, 8);
        due(-700, 3, 1, 9, 0);
        due(-702, 12, 1, 13, 3, 1, 9, 2);
        due(-700, 3, 1, 10, 0, 4, 1, 8);
        // The heights are the same, the saved registers are not.
        for (int r = 0; r < 3; r++) {
            due(-708, 10, 6, 1, r, 9, 8, 3, 1, 0, 2, r, 8);
        }
        // FP is known on one of two ways alone.
        due(-705, 1, 0, 10, 5, 5, 2, 0, 8);
        // Both where it goes on and where it goes something else is known: the former is told.
        due(-708, 10, 8, 3, 1, 12, 0, 10, 0, 8);
        due(13, 10, 4, 3, 0, 1, 1, 2, 1, 8);
        due(4, 10, 2, 13, 10, 2, 8);
    }

    private static void words() {
        due(-800, 14, 1, 0, 8);
        due(-802, 3, 1, 14, 1, 1, 8);
        due(-802, 3, 1, 14, 1, 2, 8);
        due(-802, 3, 1, 14, 1, 255, 8);
        for (int r = 0; r < 3; r++) {
            due(-802, 1, r, 14, 1, 0, 8);
        }
        due(-805, 3, 2, 14, 1, 1, 14, 2, 1, 8);
        due(-800, 15, 1, 0, 8);
        due(-802, 3, 1, 15, 1, 1, 8);
        due(-802, 1, 1, 15, 1, 1, 2, 1, 8);
        due(-802, 1, 1, 15, 1, 255, 2, 1, 8);
        due(15, 3, 1, 14, 1, 0, 15, 1, 0, 4, 1, 8);
        due(-806, 3, 1, 1, 1, 4, 0, 14, 2, 0, 8);
    }

    private static void height() {
        due(-900, 3, 30, 8);
        due(-900, 3, 255, 8);
        due(10, 3, 29, 4, 29, 8);
        due(-902, 3, 29, 1, 1, 8);
        due(-902, 3, 29, 3, 1, 8);
        due(19, 3, 28, 1, 1, 2, 1, 4, 28, 8);
    }

    private static void order() {
        // Places 2 and 7 are both known behind 5; the lower one is looked at first.
        due(-402, 9, 5, 11, 1, 5, 10, 2, 6);
        // 15: the word is looked at before the register; 2: the height before the register.
        due(-800, 15, 2, 7, 8);
        due(-500, 2, 2, 8);
        // 3 before 6.
        due(-302, 1, 1, 9, 99);
        // A fault of an instruction before something else that is known behind it.
        due(-502, 10, 4, 4, 1, 8);
    }

    private static void severalFunctions() {
        ChainUnwinder x = new ChainUnwinder();
        Check.put(x, 0, 16, 8);
        x.function(1, 2);
        x.function(0, 1);
        CHECK.is("the function with the lower number first", x.pack(), -201);
        x.clear();
        Check.put(x, 8, 16, 8);
        x.function(1, 2);
        x.function(0, 1);
        CHECK.is("then the other one", x.pack(), -101);
        CHECK.is("and again", x.pack(), -101);
    }

    private static void nothingIsLeftOfEarlierCode() {
        ChainUnwinder x = Check.one(0);
        CHECK.is("the end", x.pack(), -201);
        CHECK.is("the end again", x.pack(), -201);
        x.clear();
        Check.put(x, 0, 0, 8);
        x.function(0, 3);
        CHECK.is("instructions begin at 1 and 2", x.pack(), 4);
        x.clear();
        Check.put(x, 9, 1, 8);
        x.function(0, 3);
        CHECK.is("but here not at 1", x.pack(), -300);
    }

    private static void theSectionStays() {
        ChainUnwinder x = Check.packed(0, 8);
        x.poke(0, 9);
        Check.put(x, 0);
        x.function(2, 3);
        CHECK.is("a fault", x.pack(), -203);
        CHECK.is("the section stays", Check.sectionOf(x), 9, 2, 0, 2);
        x.clear();
        CHECK.is("without functions", x.pack(), 0);
        CHECK.is("an empty section", x.section(0), Check.NONE);
    }
}
