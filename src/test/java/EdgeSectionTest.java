import java.util.List;

/** The edges of what is packed, of section and of poke (promises 5 to 7), each with a test of its own. */
public final class EdgeSectionTest {
    private static final Check CHECK = new Check();
    private static final int NONE = Check.NONE;
    private static final int FARTHEST = Integer.MAX_VALUE;
    private static final int LOWEST = Integer.MIN_VALUE;

    public static void main(String[] args) {
        withoutFunctionsItIsEmpty();
        functionsByTheirNumbers();
        firstPlacesAndLengths();
        theCountHasTwoBytes();
        theFirstRowIsNotTold();
        theSameRowIsNotTold();
        onlyKnownPlacesAreTold();
        advancesUpTo63();
        advancesFromTheLatestTold();
        linkAndNumber();
        byFpOnlyWhileItIsKnown();
        eachFunctionBeginsWithTheFirstRow();
        nothingIsLeftOfAnEarlierPack();
        registersInTheirOrder();
        numbersUpTo30();
        aFaultLeavesTheSection();
        aFaultLeavesTheRun();
        packLeavesTheRunAndTheFrames();
        packTellsThePokedAnew();
        sectionFromFirstToLast();
        pokeFromFirstToLast();
        pokeTakes0To255();
        pokeChangesOneByteAlone();
        pokeThatIsRefusedDoesNothing();
        asking();
        CHECK.end();
    }

    private static ChainUnwinder due(int[] code, int... section) {
        ChainUnwinder x = Check.one(code);
        CHECK.is("pack", x.pack(), section.length);
        CHECK.is("section", Check.sectionOf(x), section);
        return x;
    }

    private static int[] code(int... bytes) {
        return bytes;
    }

    private static void withoutFunctionsItIsEmpty() {
        ChainUnwinder x = new ChainUnwinder();
        CHECK.is("without code", x.pack(), 0);
        x.code(0x10, 1);
        CHECK.is("code in no function is not looked at", x.pack(), 0);
        CHECK.is("no byte", x.section(0), NONE);
        ChainUnwinder y = Check.packed(3, 1, 4, 1, 8);
        y.clear();
        CHECK.is("there is a section still", y.section(0), 0);
        CHECK.is("pack", y.pack(), 0);
        CHECK.is("no byte is left", y.section(0), NONE);
        CHECK.is("none can be poked", y.poke(0, 0), false);
        CHECK.is("no function in it", Check.row(y, 0, 0), NONE);
    }

    private static void functionsByTheirNumbers() {
        ChainUnwinder x = new ChainUnwinder();
        x.code(0x0808080808080808L, 8);
        int[] firsts = {6, 0, 4, 2, 7};
        for (int i = 0; i < 5; i++) {
            x.function(firsts[i], firsts[i] + 1);
        }
        CHECK.is("five", x.pack(), 20);
        CHECK.is("section", Check.sectionOf(x),
                0, 2, 0, 1, 0, 2, 2, 1, 0, 2, 4, 1, 0, 2, 6, 1, 0, 2, 7, 1);
    }

    private static void firstPlacesAndLengths() {
        int[] all = new int[96];
        all[95] = 8;
        due(all, 0, 2, 0, 96);
        ChainUnwinder x = new ChainUnwinder();
        Check.put(x, all);
        x.function(95, 96);
        CHECK.is("the last place alone", x.pack(), 4);
        CHECK.is("section", Check.sectionOf(x), 0, 2, 95, 1);
    }

    /**
     * A function with so many bytes in the section. Two chains of jumps lie in one another, with
     * another row each, so that each jump needs 10 bytes; what is pushed and popped before needs 9,
     * what is reserved and released 6.
     */
    private static ChainUnwinder longFunction(int jumps, int pushes, int reserves) {
        ChainUnwinder x = new ChainUnwinder();
        for (int i = 0; i < pushes; i++) {
            Check.put(x, 1, 1, 2, 1);
        }
        for (int i = 0; i < reserves; i++) {
            Check.put(x, 3, 1, 4, 1);
        }
        int at = 4 * (pushes + reserves);
        Check.put(x, 10, at + 12, 1, 0, 1, 1, 1, 2, 3, 1, 9, at + 21, 1, 1, 1, 2, 1, 0, 5, 9, at + 23);
        for (int i = 0; i < jumps; i++) {
            int place = at + 21 + 2 * i;
            Check.put(x, 9, i < jumps - 2 ? place + 4 : place);
        }
        x.function(0, at + 21 + 2 * jumps);
        return x;
    }

    private static void theCountHasTwoBytes() {
        int[][] parts = {{20, 0, 1}, {19, 1, 2}, {20, 0, 2}, {18, 3, 1}, {37, 0, 0}};
        int[] counts = {250, 255, 256, 257, 414};
        for (int i = 0; i < counts.length; i++) {
            ChainUnwinder x = longFunction(parts[i][0], parts[i][1], parts[i][2]);
            int count = counts[i];
            CHECK.is("pack", x.pack(), count + 2);
            CHECK.is("the higher byte of " + count, x.section(0), count / 256);
            CHECK.is("the lower byte of " + count, x.section(1), count % 256);
            CHECK.is("the last byte of " + count, x.section(count + 1) != NONE, true);
            CHECK.is("none behind the last of " + count, x.section(count + 2), NONE);
            int last = x.section(3) - 1;
            CHECK.is("its last row", Check.row(x, last, 0), parts[i][0] % 2 == 0 ? 1 : 0);
            CHECK.is("a function behind it", Check.row(x, last + 1, 0), NONE);
        }
    }

    private static void theFirstRowIsNotTold() {
        due(code(8), 0, 2, 0, 1);
        due(code(0, 12, 1, 8), 0, 2, 0, 4);
        due(code(3, 1, 9, 2), 0, 5, 0, 4, 66, 14, 2);
    }

    private static void theSameRowIsNotTold() {
        due(code(3, 1, 0, 13, 12, 5, 4, 1, 8), 0, 8, 0, 9, 66, 14, 2, 70, 14, 1);
        // SP goes on, but the row is by FP.
        due(code(1, 0, 5, 3, 1, 3, 1, 4, 2, 9, 9), 0, 10, 0, 11, 66, 14, 2, 128, 2, 65, 13, 1);
        // A register that is spoilt has the same row.
        due(code(1, 1, 11, 1, 5, 9, 5), 0, 7, 0, 7, 66, 14, 2, 129, 2);
    }

    private static void onlyKnownPlacesAreTold() {
        // Between the jump and where it goes, nothing is known.
        due(code(3, 1, 9, 6, 3, 9, 9, 6), 0, 5, 0, 8, 66, 14, 2);
        // Behind the return neither.
        due(code(8, 3, 9, 4, 9, 8), 0, 2, 0, 6);
        // The places are gone over from the lowest on, whenever they became known.
        due(code(9, 5, 4, 1, 8, 3, 1, 9, 2), 0, 11, 0, 9, 66, 14, 2, 66, 14, 1, 67, 14, 2);
    }

    private static void advancesUpTo63() {
        for (int far = 2; far <= 94; far++) {
            int[] bytes = new int[far + 2];
            bytes[far - 2] = 3;
            bytes[far - 1] = 1;
            bytes[far] = 9;
            bytes[far + 1] = far;
            if (far <= 63) {
                due(bytes, 0, 5, 0, far + 2, 64 + far, 14, 2);
            } else {
                due(bytes, 0, 6, 0, far + 2, 2, far, 14, 2);
            }
        }
    }

    private static void advancesFromTheLatestTold() {
        ChainUnwinder x = new ChainUnwinder();
        Check.put(x, 8, 8, 0, 3, 1, 0, 0, 4, 1, 3, 1, 4, 1, 8);
        x.function(2, 14);
        CHECK.is("pack", x.pack(), 16);
        CHECK.is("section", Check.sectionOf(x), 0, 14, 2, 12, 67, 14, 2, 68, 14, 1, 66, 14, 2, 66, 14, 1);
    }

    private static void linkAndNumber() {
        // Both are others: FP and 2 become SP and 5.
        due(code(1, 0, 5, 3, 3, 15, 0, 3, 9, 8),
                0, 15, 0, 10, 66, 14, 2, 128, 2, 65, 13, 1, 69, 12, 0, 5, 192);
        // The link alone.
        due(code(1, 0, 5, 15, 0, 0, 9, 6), 0, 14, 0, 8, 66, 14, 2, 128, 2, 65, 13, 1, 67, 13, 0, 192);
        // The number alone, by SP and by FP.
        due(code(3, 2, 9, 2), 0, 5, 0, 4, 66, 14, 3);
        due(code(1, 0, 5, 3, 1, 5, 9, 6), 0, 13, 0, 8, 66, 14, 2, 128, 2, 65, 13, 1, 67, 14, 3);
        // Neither: a register alone.
        for (int r = 0; r < 3; r++) {
            due(code(3, 1, 14, r, 0, 9, 5), 0, 8, 0, 7, 66, 14, 2, 67, 128 + r, 2);
            due(code(3, 1, 14, r, 0, 15, r, 0, 9, 8), 0, 10, 0, 10, 66, 14, 2, 67, 128 + r, 2, 67, 192 + r);
        }
    }

    private static void byFpOnlyWhileItIsKnown() {
        int[] known = {66, 14, 2, 128, 2, 65, 13, 1};
        // FP is spoilt by a number, or given another word: then the row is by SP.
        due(code(1, 0, 5, 11, 0, 7, 9, 6), behind(known, 8, 67, 13, 0));
        due(code(1, 0, 5, 3, 1, 15, 0, 0, 9, 8), behind(known, 10, 69, 12, 0, 3));
        // Another register that is spoilt does not matter.
        due(code(1, 0, 5, 1, 1, 11, 1, 7, 9, 8), behind(known, 10, 66, 129, 3));
    }

    /** The section of a function of this length from 0 on, whose program begins with these bytes. */
    private static int[] behind(int[] known, int length, int... more) {
        int[] all = new int[4 + known.length + more.length];
        all[1] = 2 + known.length + more.length;
        all[3] = length;
        System.arraycopy(known, 0, all, 4, known.length);
        System.arraycopy(more, 0, all, 4 + known.length, more.length);
        return all;
    }

    private static void eachFunctionBeginsWithTheFirstRow() {
        // The first one ends with all registers saved and FP as the link.
        ChainUnwinder x = new ChainUnwinder();
        Check.put(x, 1, 0, 1, 1, 1, 2, 5, 9, 7, 8, 3, 1, 9, 12);
        x.function(0, 9);
        x.function(9, 10);
        x.function(10, 14);
        CHECK.is("pack", x.pack(), 33);
        List<Integer> bytes = Check.sectionOf(x);
        CHECK.is("the others", bytes.subList(22, 33), 0, 2, 9, 1, 0, 5, 10, 4, 66, 14, 2);
    }

    private static void nothingIsLeftOfAnEarlierPack() {
        ChainUnwinder x = Check.packed(1, 0, 1, 1, 1, 2, 5, 9, 7);
        int[][] codes = {{8, 3, 1, 8}, {0, 8}, {9, 3, 16, 8}, {0}, {9, 1, 8}};
        int[] answers = {4, 4, -300, -201, -300};
        for (int i = 0; i < codes.length; i++) {
            x.clear();
            Check.put(x, codes[i]);
            x.function(0, codes[i].length);
            CHECK.is("pack anew", x.pack(), answers[i]);
            CHECK.is("and again", x.pack(), answers[i]);
        }
    }

    private static void registersInTheirOrder() {
        for (int r = 0; r < 3; r++) {
            // s from 2 on is told by two bytes, 0 by one.
            due(code(1, r, 2, r, 8), 0, 11, 0, 5, 66, 14, 2, 128 + r, 2, 66, 14, 1, 192 + r);
        }
        // At 17 all three are saved, behind a place where none is.
        due(code(1, 2, 1, 1, 1, 0, 10, 17, 2, 0, 2, 1, 2, 2, 8, 0, 0, 9, 17),
                0, 38, 0, 19, 66, 14, 2, 130, 2, 66, 14, 3, 129, 3, 66, 14, 4, 128, 4,
                68, 14, 3, 192, 66, 14, 2, 193, 66, 14, 1, 194, 67, 14, 4, 128, 4, 129, 3, 130, 2);
        // At 10 none is saved, behind a place where all three are.
        due(code(10, 10, 1, 0, 1, 1, 1, 2, 9, 8, 8),
                0, 23, 0, 11, 68, 14, 2, 128, 2, 66, 14, 3, 129, 3, 66, 14, 4, 130, 4, 66, 14, 1, 192, 193, 194);
    }

    private static void numbersUpTo30() {
        due(code(3, 29, 9, 2), 0, 5, 0, 4, 66, 14, 30);
        due(code(3, 28, 1, 1, 9, 4), 0, 10, 0, 6, 66, 14, 29, 66, 14, 30, 129, 30);
        due(code(3, 28, 1, 0, 5, 9, 5), 0, 13, 0, 7, 66, 14, 29, 66, 14, 30, 128, 30, 65, 13, 1);
        due(code(3, 29, 14, 1, 28, 9, 5), 0, 8, 0, 7, 66, 14, 30, 67, 129, 2);
    }

    /** A function with each fault, put behind one without any. */
    private static final int[][] FAULTS = {{16}, {0}, {7, 99}, {5}, {6}, {3, 1, 8}, {3, 1, 9, 9}, {14, 0, 0}, {3, 30}};

    private static void aFaultLeavesTheSection() {
        for (int fault = 1; fault <= 9; fault++) {
            ChainUnwinder x = Check.packed(3, 1, 4, 1, 8);
            x.poke(6, 77);
            List<Integer> was = Check.sectionOf(x);
            x.clear();
            Check.put(x, 0, 0, 0, 0, 0, 0, 0, 0, 8);
            Check.put(x, FAULTS[fault - 1]);
            x.function(0, 9);
            x.function(9, 9 + FAULTS[fault - 1].length);
            CHECK.is("fault " + fault, -x.pack() / 100, fault);
            CHECK.is("the section stays", Check.sectionOf(x).equals(was), true);
            CHECK.is("its row, too", Check.row(x, 2, 1), 77);
        }
        ChainUnwinder y = Check.one(6);
        CHECK.is("a fault without a section", y.pack(), -500);
        CHECK.is("there is none still", y.section(0), NONE);
    }

    private static void aFaultLeavesTheRun() {
        for (int[] faulty : FAULTS) {
            ChainUnwinder x = Twins.underWay();
            int length = x.code(0, 1);
            Check.put(x, faulty);
            x.function(length, length + faulty.length);
            x.begin(100, 101, 102, 103);
            Check.steps(x, 4);
            x.unwind();
            List<Integer> was = Check.state(x);
            CHECK.is("a fault", x.pack() < 0, true);
            CHECK.is("the run stays", Check.state(x).equals(was), true);
            CHECK.is("so do the frames", Check.frame(x, 2), 255, 40, 100, 101, 102);
            CHECK.is("it goes on", Check.step(x), 15);
        }
    }

    private static void packLeavesTheRunAndTheFrames() {
        ChainUnwinder x = Twins.underWay();
        List<Integer> was = Check.state(x);
        List<Integer> frame = Check.frame(x, 1);
        CHECK.is("pack", x.pack() > 0, true);
        CHECK.is("the run stays", Check.state(x).equals(was), true);
        CHECK.is("so do the frames", Check.frame(x, 1).equals(frame), true);
        CHECK.is("it goes on", Check.step(x), 15);
    }

    private static void packTellsThePokedAnew() {
        ChainUnwinder x = Twins.underWay();
        List<Integer> was = Check.sectionOf(x);
        for (int i = 0; i < was.size(); i++) {
            x.poke(i, 255 - was.get(i));
        }
        CHECK.is("pack", x.pack(), was.size());
        CHECK.is("the section is as before", Check.sectionOf(x).equals(was), true);
    }

    private static void sectionFromFirstToLast() {
        ChainUnwinder x = Check.packed(3, 4, 4, 4, 8);
        int[] bytes = {0, 8, 0, 5, 66, 14, 5, 66, 14, 1};
        for (int i = -3; i < 14; i++) {
            CHECK.is("section(" + i + ")", x.section(i), i >= 0 && i < 10 ? bytes[i] : NONE);
        }
        CHECK.is("the lowest", x.section(LOWEST), NONE);
        CHECK.is("the farthest", x.section(FARTHEST), NONE);
        // Bytes of a longer one before it are none of it.
        x.clear();
        x.code(8, 1);
        x.function(0, 1);
        x.pack();
        CHECK.is("its last", x.section(3), 1);
        CHECK.is("behind it", x.section(4), NONE);
    }

    private static void pokeFromFirstToLast() {
        for (int i = -3; i < 14; i++) {
            ChainUnwinder x = Check.packed(3, 4, 4, 4, 8);
            CHECK.is("poke(" + i + ")", x.poke(i, 99), i >= 0 && i < 10);
            CHECK.is("section(" + i + ")", x.section(i), i >= 0 && i < 10 ? 99 : NONE);
        }
    }

    private static void pokeTakes0To255() {
        ChainUnwinder x = Check.packed(8);
        int[] taken = {0, 1, 127, 128, 254, 255};
        for (int b : taken) {
            CHECK.is("poke of " + b, x.poke(2, b), true);
            CHECK.is("the byte", x.section(2), b);
        }
        int[] refused = {LOWEST, -256, -1, 256, 257, FARTHEST};
        for (int b : refused) {
            CHECK.is("poke of " + b, x.poke(2, b), false);
            CHECK.is("the byte stays", x.section(2), 255);
        }
    }

    private static void pokeChangesOneByteAlone() {
        for (int i = 0; i < 10; i++) {
            ChainUnwinder x = Check.packed(3, 4, 4, 4, 8);
            List<Integer> was = Check.sectionOf(x);
            x.poke(i, 200);
            was.set(i, 200);
            CHECK.is("byte " + i, Check.sectionOf(x).equals(was), true);
        }
    }

    private static void pokeThatIsRefusedDoesNothing() {
        int length = Check.sectionOf(Twins.underWay()).size();
        int[][] wrong = {{-1, 0}, {length, 0}, {LOWEST, 0}, {FARTHEST, 0}, {0, -1}, {0, 256}, {length - 1, LOWEST},
            {length - 1, FARTHEST}, {-1, -1}, {length, 256}};
        for (int[] pair : wrong) {
            Twins.leaves(CHECK, "poke " + pair[0] + " " + pair[1], Twins::underWay, 0,
                    x -> Twins.answer(x.poke(pair[0], pair[1])));
        }
        Twins.leaves(CHECK, "poke of nothing", ChainUnwinder::new, 0, x -> Twins.answer(x.poke(0, 0)));
    }

    private static void asking() {
        int[] places = {LOWEST, -1, FARTHEST};
        for (int i : places) {
            Twins.leaves(CHECK, "section " + i, Twins::underWay, NONE, x -> x.section(i));
        }
        Twins.leaves(CHECK, "section 0", Twins::underWay, 0, x -> x.section(0));
        Twins.leaves(CHECK, "pack again", Twins::underWay, 26, ChainUnwinder::pack);
    }
}
