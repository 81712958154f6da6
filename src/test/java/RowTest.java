/** Promise 8: row, over sections that are changed to anything. */
public final class RowTest {
    private static final Check CHECK = new Check();
    private static final int NONE = Check.NONE;
    private static final int BAD = Check.ARGUMENT;

    public static void main(String[] args) {
        packedRows();
        noSuchPlaceOrPart();
        whatHoldsWhere();
        theSameToldInOtherWays();
        thePile();
        unknownBytes();
        linksAndMissingBytes();
        advances();
        countsOfBytes();
        countOfTheLastFunction();
        whichFunctionIsRead();
        CHECK.end();
    }

    private static void packedRows() {
        ChainUnwinder x = Check.packed(1, 0, 5, 1, 2, 3, 3, 4, 3, 2, 2, 2, 0, 8);
        CHECK.is("0", Check.wholeRow(x, 0), 0, 1, 0, 0, 0);
        CHECK.is("1, inside an instruction", Check.wholeRow(x, 1), 0, 1, 0, 0, 0);
        CHECK.is("2", Check.wholeRow(x, 2), 0, 2, 2, 0, 0);
        CHECK.is("3", Check.wholeRow(x, 3), 1, 2, 2, 0, 0);
        CHECK.is("5", Check.wholeRow(x, 5), 1, 2, 2, 0, 3);
        CHECK.is("7", Check.wholeRow(x, 7), 1, 2, 2, 0, 3);
        CHECK.is("11", Check.wholeRow(x, 11), 1, 2, 2, 0, 0);
        CHECK.is("13", Check.wholeRow(x, 13), 0, 1, 0, 0, 0);
    }

    private static void noSuchPlaceOrPart() {
        ChainUnwinder x = Check.packed(0, 8);
        int[] places = {-1, 2, 255, 256, Integer.MIN_VALUE, Integer.MAX_VALUE};
        for (int place : places) {
            CHECK.is("no place " + place, Check.row(x, place, 0), NONE);
        }
        int[] parts = {-1, 5, Integer.MIN_VALUE, Integer.MAX_VALUE};
        for (int what : parts) {
            CHECK.is("no part " + what, Check.row(x, 1, what), NONE);
        }
        x.poke(1, 9);
        CHECK.is("malformed comes before no part", Check.row(x, 1, 5), BAD);
        CHECK.is("malformed comes before no place", Check.row(x, 2, 0), BAD);
        ChainUnwinder y = Poked.program(1);
        CHECK.is("a malformed program comes before no part", Check.row(y, 10, 7), BAD);
    }

    private static void whatHoldsWhere() {
        ChainUnwinder x = Poked.program(14, 9, 67, 13, 1, 128, 7, 66, 12, 0, 200, 129, 255, 130, 1, 192);
        CHECK.is("told before any advance", Check.wholeRow(x, 10), 0, 9, 0, 0, 0);
        CHECK.is("up to the next", Check.wholeRow(x, 12), 0, 9, 0, 0, 0);
        CHECK.is("from there on", Check.wholeRow(x, 13), 1, 9, 7, 0, 0);
        CHECK.is("up to the next", Check.wholeRow(x, 14), 1, 9, 7, 0, 0);
        CHECK.is("the last one", Check.wholeRow(x, 15), 0, 200, 0, 255, 1);
        CHECK.is("up to the end", Check.wholeRow(x, 19), 0, 200, 0, 255, 1);
        CHECK.is("behind the end", Check.row(x, 20, 0), NONE);
        CHECK.is("before the beginning", Check.row(x, 9, 0), NONE);
        CHECK.is("nothing told", Check.wholeRow(Poked.program(), 15), 0, 1, 0, 0, 0);
    }

    private static void theSameToldInOtherWays() {
        CHECK.is("2 d with a small d", Check.wholeRow(Poked.program(2, 3, 14, 4), 13), 0, 4, 0, 0, 0);
        CHECK.is("not before it", Check.wholeRow(Poked.program(2, 3, 14, 4), 12), 0, 1, 0, 0, 0);
        CHECK.is("2 0", Check.wholeRow(Poked.program(2, 0, 14, 4), 10), 0, 4, 0, 0, 0);
        CHECK.is("64", Check.wholeRow(Poked.program(64, 14, 4, 64), 10), 0, 4, 0, 0, 0);
        CHECK.is("what holds already", Check.wholeRow(Poked.program(12, 0, 1, 13, 0, 192), 10), 0, 1, 0, 0, 0);
        CHECK.is("n 0", Check.wholeRow(Poked.program(14, 0), 10), 0, 0, 0, 0, 0);
        CHECK.is("s 0 and s 1", Check.wholeRow(Poked.program(128, 5, 128, 0, 129, 1), 10), 0, 1, 0, 1, 0);
        CHECK.is("nothing", Check.wholeRow(Poked.program(0, 0, 14, 3, 0), 10), 0, 3, 0, 0, 0);
        CHECK.is("the first two advances", Check.wholeRow(Poked.program(65, 65, 14, 4), 11), 0, 1, 0, 0, 0);
        CHECK.is("both of them", Check.wholeRow(Poked.program(65, 65, 14, 4), 12), 0, 4, 0, 0, 0);
    }

    private static void thePile() {
        ChainUnwinder x = Poked.program(12, 1, 5, 10, 65, 12, 0, 6, 130, 9, 10, 65, 14, 7, 10, 65, 14, 8, 10,
                65, 14, 9, 11, 65, 11, 65, 11, 65, 11);
        CHECK.is("the first one", Check.wholeRow(x, 10), 1, 5, 0, 0, 0);
        CHECK.is("the second one", Check.wholeRow(x, 11), 0, 6, 0, 0, 9);
        CHECK.is("the fourth one again", Check.wholeRow(x, 14), 0, 8, 0, 0, 9);
        CHECK.is("the third one again", Check.wholeRow(x, 15), 0, 7, 0, 0, 9);
        CHECK.is("the second one again", Check.wholeRow(x, 16), 0, 6, 0, 0, 9);
        CHECK.is("the first one again", Check.wholeRow(x, 17), 1, 5, 0, 0, 0);
        CHECK.is("empty", Check.row(Poked.program(11), 10, 1), BAD);
        CHECK.is("empty again", Check.row(Poked.program(10, 11, 11), 10, 1), BAD);
        CHECK.is("four", Check.row(Poked.program(10, 10, 10, 10), 10, 1), 1);
        CHECK.is("five", Check.row(Poked.program(10, 10, 10, 10, 10), 10, 1), BAD);
        CHECK.is("five, one taken off", Check.row(Poked.program(10, 10, 10, 10, 11, 10), 10, 1), 1);
        ChainUnwinder full = Poked.program(10, 10, 10, 10);
        CHECK.is("a full pile is left", Check.row(full, 10, 1), 1);
        CHECK.is("but each reading has its own", Check.row(full, 10, 1), 1);
        CHECK.is("full behind the place", Check.row(Poked.program(66, 10, 10, 10, 10, 10), 10, 1), BAD);
    }

    private static void unknownBytes() {
        for (int b = 0; b < 256; b++) {
            boolean known = b == 0 || b == 2 || b == 10 || b >= 12 && b <= 14 || b >= 64 && b <= 73
                    || b >= 128 && b <= 130 || b >= 192 && b <= 194;
            int answer = Check.row(Poked.program(b, 0, 0), 10, 0);
            CHECK.is("byte " + b, answer != BAD, known);
        }
        CHECK.is("an unknown byte behind the place", Check.row(Poked.program(65, 1), 10, 0), BAD);
    }

    private static void linksAndMissingBytes() {
        CHECK.is("13 2", Check.row(Poked.program(13, 2), 10, 0), BAD);
        CHECK.is("13 255", Check.row(Poked.program(13, 255), 10, 0), BAD);
        CHECK.is("12 2 1", Check.row(Poked.program(12, 2, 1), 10, 0), BAD);
        CHECK.is("13 2 behind the place", Check.row(Poked.program(66, 13, 2), 10, 0), BAD);
        int[] begun = {2, 12, 13, 14, 128, 129, 130};
        for (int b : begun) {
            CHECK.is("nothing behind " + b, Check.row(Poked.program(b), 10, 0), BAD);
            CHECK.is("nothing behind " + b + " at last", Check.row(Poked.program(0, 64, b), 10, 0), BAD);
        }
        CHECK.is("one byte behind 12", Check.row(Poked.program(12, 1), 10, 0), BAD);
        CHECK.is("two bytes behind 12", Check.row(Poked.program(12, 1, 1), 10, 0), 1);
    }

    private static void advances() {
        CHECK.is("to the last place", Check.row(Poked.program(73, 14, 3), 19, 1), 3);
        CHECK.is("to the end", Check.row(Poked.program(74, 14, 3), 10, 1), BAD);
        CHECK.is("to the last place by 2", Check.row(Poked.program(2, 9, 14, 3), 19, 1), 3);
        CHECK.is("to the end by 2", Check.row(Poked.program(2, 10), 10, 1), BAD);
        CHECK.is("to the end in parts", Check.row(Poked.program(69, 69), 10, 1), BAD);
        CHECK.is("far", Check.row(Poked.program(2, 255), 10, 1), BAD);
        ChainUnwinder high = Poked.section(0, 9, 200, 255, 2, 254, 14, 3, 0, 0, 0);
        CHECK.is("places above 255", Check.row(high, 454, 1), 3);
        CHECK.is("places above 255", Check.row(high, 453, 1), 1);
        CHECK.is("behind them", Check.row(high, 455, 1), NONE);
        CHECK.is("no place goes round", Check.row(high, 198, 1), NONE);
    }

    private static void countsOfBytes() {
        CHECK.is("none", Check.row(Poked.section(0, 0), 10, 0), BAD);
        CHECK.is("one", Check.row(Poked.section(0, 1, 0), 10, 0), BAD);
        CHECK.is("two", Check.row(Poked.section(0, 2, 10, 1), 10, 1), 1);
        ChainUnwinder x = Check.packed(0, 3, 1, 4, 1, 8);
        CHECK.is("packed", Check.sectionOf(x), 0, 8, 0, 6, 67, 14, 2, 66, 14, 1);
        x.poke(1, 9);
        CHECK.is("one more than there are", Check.row(x, 0, 0), BAD);
        CHECK.is("when none has the place, too", Check.row(x, 6, 0), BAD);
        x.poke(1, 8);
        x.poke(0, 1);
        CHECK.is("the higher byte counts", Check.row(x, 0, 0), BAD);
        x.poke(0, 0);
        x.poke(1, 7);
        CHECK.is("one byte is left, and one is missing", Check.row(x, 0, 0), BAD);
        x.poke(1, 5);
        CHECK.is("found before what is left", Check.row(x, 3, 1), 2);
        CHECK.is("what is left is no function", Check.row(x, 6, 1), BAD);
        x.poke(1, 2);
        CHECK.is("too many for the second", Check.row(x, 6, 1), BAD);
        x.poke(1, 7);
        x.poke(8, 0);
        CHECK.is("a single byte is left", Check.row(x, 6, 1), BAD);
        CHECK.is("but not before it", Check.row(x, 5, 1), 2);
    }

    private static void countOfTheLastFunction() {
        ChainUnwinder x = new ChainUnwinder();
        Check.put(x, 8, 8, 8);
        x.function(0, 1);
        x.function(1, 2);
        CHECK.is("pack", x.pack(), 8);
        int[] counts = {0, 1, 2, 3, 4, 8, 255};
        for (int count : counts) {
            x.poke(5, count);
            CHECK.is("its count is " + count, Check.row(x, 1, 1), count == 2 ? 1 : BAD);
            CHECK.is("no function, its count is " + count, Check.row(x, 2, 1), count == 2 ? NONE : BAD);
            CHECK.is("the function before it", Check.row(x, 0, 1), 1);
        }
    }

    private static void whichFunctionIsRead() {
        ChainUnwinder x = Poked.section(0, 3, 0, 10, 1, 0, 4, 10, 5, 14, 7, 0, 4, 12, 9, 14, 8, 0, 2, 30, 0);
        CHECK.is("a malformed program", Check.row(x, 9, 1), BAD);
        CHECK.is("is not read for others", Check.row(x, 10, 1), 7);
        CHECK.is("the first one that has it", Check.row(x, 12, 1), 7);
        CHECK.is("the second one", Check.row(x, 15, 1), 8);
        CHECK.is("no place in a function without length", Check.row(x, 30, 1), NONE);
        CHECK.is("no function", Check.row(x, 21, 1), NONE);
        ChainUnwinder y = Poked.section(0, 4, 0, 10, 14, 3, 0, 1, 20, 5);
        CHECK.is("a malformed one behind it", Check.row(y, 5, 1), 3);
        CHECK.is("when none has the place", Check.row(y, 50, 1), BAD);
        ChainUnwinder z = Poked.section(0, 1, 0, 4, 0, 10, 14, 3);
        CHECK.is("a malformed one before it", Check.row(z, 5, 1), BAD);
    }
}
