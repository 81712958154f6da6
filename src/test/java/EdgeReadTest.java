/** The edges of reading a section (promise 8), each with a test of its own. */
public final class EdgeReadTest {
    private static final Check CHECK = new Check();
    private static final int NONE = Check.NONE;
    private static final int BAD = Check.ARGUMENT;
    private static final int FARTHEST = Integer.MAX_VALUE;
    private static final int LOWEST = Integer.MIN_VALUE;

    public static void main(String[] args) {
        anEmptyProgram();
        holdsFromWhereItHasAdvancedTo();
        holdsUpToTheNext();
        tellsMoreThanOnceAtAPlace();
        advancesOfOneByte();
        advancesOfTwoBytes();
        advancesToPlacesThatTheFunctionHas();
        advancesDoNotGoRound();
        whatHoldsAlready();
        anyNumber();
        anySaved();
        nothing();
        linksAre0And1();
        registersAre0To2();
        otherBytes();
        bytesThatAreMissing();
        thePileHasFour();
        thePileMayBeEmpty();
        thePileHoldsWholeRows();
        eachReadingHasItsOwnPile();
        theWholeProgramIsRead();
        onlyOneProgramIsRead();
        bytesAreAtLeastTwo();
        bytesAreNoMoreThanThereAre();
        aCountIsMissing();
        theHigherByteOfACount();
        theFirstFunctionThatHasThePlace();
        aFunctionWithoutPlaces();
        malformedUpToAndWithTheFunction();
        malformedWhenNoneHasThePlace();
        placesOfAFunction();
        whatIs0To4();
        malformedComesFirst();
        rowLeavesAll();
        CHECK.end();
    }

    private static int row(ChainUnwinder x, int place, int what) {
        return Check.row(x, place, what);
    }

    private static void due(int[] program, int place, int... parts) {
        CHECK.is("row of " + place, Check.wholeRow(Poked.program(program), place), parts);
    }

    private static int[] told(int... bytes) {
        return bytes;
    }

    /** The program, for the places 10 .. 19, is malformed. */
    private static void bad(int... program) {
        CHECK.is(Check.text("malformed:", program), row(Poked.program(program), 10, 0), BAD);
    }

    private static void fine(int... program) {
        CHECK.is(Check.text("not malformed:", program), row(Poked.program(program), 10, 0) != BAD, true);
    }

    private static void anEmptyProgram() {
        due(told(), 10, 0, 1, 0, 0, 0);
        due(told(), 19, 0, 1, 0, 0, 0);
        // What another program told before is not left.
        ChainUnwinder x = Poked.section(0, 11, 0, 10, 12, 1, 9, 128, 5, 129, 6, 130, 7, 0, 2, 10, 10);
        for (int i = 0; i < 2; i++) {
            CHECK.is("a program", Check.wholeRow(x, 0), 1, 9, 5, 6, 7);
            CHECK.is("an empty one", Check.wholeRow(x, 10), 0, 1, 0, 0, 0);
        }
    }

    private static void holdsFromWhereItHasAdvancedTo() {
        int[] program = {67, 12, 1, 9, 128, 5, 129, 6, 130, 7};
        due(program, 12, 0, 1, 0, 0, 0);
        due(program, 13, 1, 9, 5, 6, 7);
        due(program, 14, 1, 9, 5, 6, 7);
        due(program, 19, 1, 9, 5, 6, 7);
        due(told(14, 9), 10, 0, 9, 0, 0, 0);
    }

    private static void holdsUpToTheNext() {
        int[] program = {14, 2, 66, 14, 3, 66, 128, 4};
        due(program, 11, 0, 2, 0, 0, 0);
        due(program, 12, 0, 3, 0, 0, 0);
        due(program, 13, 0, 3, 0, 0, 0);
        due(program, 14, 0, 3, 4, 0, 0);
    }

    private static void tellsMoreThanOnceAtAPlace() {
        due(told(14, 2, 14, 3), 10, 0, 3, 0, 0, 0);
        due(told(66, 14, 2, 64, 14, 3), 12, 0, 3, 0, 0, 0);
        due(told(66, 14, 2, 2, 0, 14, 3), 12, 0, 3, 0, 0, 0);
        due(told(66, 14, 2, 64, 14, 3), 11, 0, 1, 0, 0, 0);
        due(told(128, 5, 192, 193, 129, 3), 10, 0, 1, 0, 3, 0);
    }

    private static void advancesOfOneByte() {
        for (int d = 0; d <= 63; d++) {
            ChainUnwinder x = Poked.programOf(0, 64, 64 + d, 14, 9);
            CHECK.is("by " + d, row(x, d, 1), 9);
            CHECK.is("not before " + d, d == 0 || row(x, d - 1, 1) == 1, true);
        }
        CHECK.is("by 63 in 63 places", row(Poked.programOf(0, 63, 127, 14, 9), 0, 1), BAD);
        CHECK.is("by 62 in 63 places", row(Poked.programOf(0, 63, 126, 14, 9), 62, 1), 9);
    }

    private static void advancesOfTwoBytes() {
        int[] distances = {0, 1, 62, 63, 64, 65, 127, 128, 253, 254};
        for (int d : distances) {
            ChainUnwinder x = Poked.programOf(0, 255, 2, d, 14, 9);
            CHECK.is("by 2 " + d, row(x, d, 1), 9);
            CHECK.is("not before " + d, d == 0 || row(x, d - 1, 1) == 1, true);
        }
        CHECK.is("by 2 255", row(Poked.programOf(0, 255, 2, 255, 14, 9), 0, 1), BAD);
    }

    private static void advancesToPlacesThatTheFunctionHas() {
        fine(73);
        bad(74);
        fine(2, 9);
        bad(2, 10);
        bad(2, 255);
        fine(68, 69);
        bad(69, 69);
        fine(73, 64);
        fine(73, 2, 0);
        bad(73, 65);
        CHECK.is("one place", row(Poked.programOf(5, 1, 64, 2, 0, 14, 9), 5, 1), 9);
        CHECK.is("one place, and one more", row(Poked.programOf(5, 1, 65), 5, 1), BAD);
        CHECK.is("one place, and one more by 2", row(Poked.programOf(5, 1, 2, 1), 5, 1), BAD);
    }

    private static void advancesDoNotGoRound() {
        ChainUnwinder x = Poked.programOf(255, 255, 2, 254, 14, 9);
        CHECK.is("its first place", row(x, 255, 1), 1);
        CHECK.is("above it", row(x, 256, 1), 1);
        CHECK.is("just before the last", row(x, 508, 1), 1);
        CHECK.is("its last place", row(x, 509, 1), 9);
        CHECK.is("behind it", row(x, 510, 1), NONE);
        CHECK.is("its last place, less 256", row(x, 253, 1), NONE);
        CHECK.is("0", row(x, 0, 1), NONE);
        CHECK.is("back by going round", row(Poked.programOf(10, 200, 2, 199, 2, 56, 14, 9), 10, 1), BAD);
        ChainUnwinder far = Poked.programOf(0, 1, 2, 255, 2, 255, 2, 255);
        CHECK.is("far behind", row(far, 0, 1), BAD);
    }

    private static void whatHoldsAlready() {
        due(told(12, 0, 1, 13, 0, 14, 1, 192, 193, 194, 128, 0), 10, 0, 1, 0, 0, 0);
        due(told(12, 1, 7, 12, 1, 7, 13, 1, 14, 7, 130, 3, 130, 3), 10, 1, 7, 0, 0, 3);
        due(told(12, 0, 7, 12, 1, 7, 12, 1, 8), 10, 1, 8, 0, 0, 0);
    }

    private static void anyNumber() {
        int[] numbers = {0, 1, 30, 31, 40, 41, 127, 128, 255};
        for (int n : numbers) {
            due(told(14, n), 10, 0, n, 0, 0, 0);
            due(told(12, 1, n), 10, 1, n, 0, 0, 0);
        }
    }

    private static void anySaved() {
        int[] numbers = {0, 1, 2, 30, 31, 40, 41, 127, 128, 255};
        for (int s : numbers) {
            due(told(128, s), 10, 0, 1, s, 0, 0);
            due(told(129, s), 10, 0, 1, 0, s, 0);
            due(told(130, s), 10, 0, 1, 0, 0, s);
        }
    }

    private static void nothing() {
        due(told(0), 10, 0, 1, 0, 0, 0);
        due(told(0, 14, 5, 0, 0, 66, 0, 128, 0, 0), 12, 0, 5, 0, 0, 0);
    }

    private static void linksAre0And1() {
        for (int link = 0; link < 256; link++) {
            int answer = row(Poked.program(13, link), 10, 0);
            CHECK.is("13 " + link, answer, link <= 1 ? link : BAD);
            int both = row(Poked.program(12, link, 5), 10, 0);
            CHECK.is("12 " + link, both, link <= 1 ? link : BAD);
        }
        // Though it is another one again at the same place.
        bad(13, 2, 13, 0);
        bad(12, 2, 1, 12, 0, 1);
    }

    private static void registersAre0To2() {
        for (int r = 0; r < 64; r++) {
            int saved = row(Poked.program(128 + r, 5, 0), 10, Math.min(2 + r, 4));
            CHECK.is("128 + " + r, saved, r <= 2 ? 5 : BAD);
            int given = row(Poked.program(128, 5, 129, 5, 130, 5, 192 + r), 10, Math.min(2 + r, 4));
            CHECK.is("192 + " + r, given, r <= 2 ? 0 : BAD);
        }
    }

    private static void otherBytes() {
        for (int b = 0; b < 64; b++) {
            boolean known = b == 0 || b == 2 || b >= 10 && b <= 14;
            // 11 has something to take off.
            int answer = row(Poked.program(10, b, 0, 0), 10, 0);
            CHECK.is("byte " + b, answer != BAD, known);
        }
    }

    private static void bytesThatAreMissing() {
        int[] withOne = {2, 13, 14, 128, 129, 130};
        for (int b : withOne) {
            bad(b);
            fine(b, 0);
            bad(b, 0, b);
        }
        bad(12);
        bad(12, 0);
        fine(12, 0, 0);
        // The next function's bytes are not taken for them.
        ChainUnwinder x = Poked.section(0, 3, 10, 10, 14, 0, 2, 30, 1);
        CHECK.is("n is missing", row(x, 10, 1), BAD);
        CHECK.is("the next function is not", row(x, 30, 1), 1);
    }

    private static void thePileHasFour() {
        fine(10);
        fine(10, 10, 10, 10);
        bad(10, 10, 10, 10, 10);
        fine(10, 10, 10, 10, 11, 10);
        bad(10, 10, 10, 10, 11, 10, 10);
        fine(10, 10, 10, 10, 11, 11, 11, 11, 10, 10, 10, 10);
    }

    private static void thePileMayBeEmpty() {
        bad(11);
        fine(10, 11);
        bad(10, 11, 11);
        fine(10, 10, 10, 10, 11, 11, 11, 11);
        bad(10, 10, 10, 10, 11, 11, 11, 11, 11);
    }

    private static void thePileHoldsWholeRows() {
        int[] program = {12, 1, 2, 128, 3, 129, 4, 130, 5, 10, 12, 0, 6, 192, 193, 194, 10, 13, 1, 65, 11, 65, 11};
        due(program, 10, 1, 6, 0, 0, 0);
        due(program, 11, 0, 6, 0, 0, 0);
        due(program, 12, 1, 2, 3, 4, 5);
        // What is told behind 10 is not on the pile; where the program is, is not either.
        due(told(10, 65, 14, 7, 65, 11), 11, 0, 7, 0, 0, 0);
        due(told(10, 65, 14, 7, 65, 11), 12, 0, 1, 0, 0, 0);
        due(told(14, 2, 10, 14, 3, 10, 14, 4, 10, 14, 5, 10, 14, 6, 11, 11, 11, 11), 10, 0, 2, 0, 0, 0);
        // It is taken off: a second one is what lies below.
        due(told(14, 2, 10, 14, 3, 10, 14, 4, 11, 14, 5, 11), 10, 0, 2, 0, 0, 0);
    }

    private static void eachReadingHasItsOwnPile() {
        ChainUnwinder x = Poked.section(0, 6, 0, 10, 10, 10, 10, 10, 0, 3, 10, 10, 11);
        for (int i = 0; i < 3; i++) {
            CHECK.is("four are left on it", row(x, 0, 1), 1);
            CHECK.is("another program has none", row(x, 10, 1), BAD);
        }
    }

    private static void theWholeProgramIsRead() {
        // What is wrong lies behind place 10, and behind all places that are asked for.
        bad(66, 1);
        bad(66, 13, 2);
        bad(66, 12, 2, 0);
        bad(66, 131, 0);
        bad(66, 195);
        bad(66, 14);
        bad(66, 11);
        bad(66, 10, 10, 10, 10, 10);
        bad(66, 72);
        bad(73, 1);
    }

    private static void onlyOneProgramIsRead() {
        ChainUnwinder x = Poked.section(0, 3, 0, 5, 1, 0, 4, 5, 5, 14, 6, 0, 3, 10, 5, 255);
        CHECK.is("malformed before", row(x, 4, 1), BAD);
        CHECK.is("the one that has the place", row(x, 5, 1), 6);
        CHECK.is("its last place", row(x, 9, 1), 6);
        CHECK.is("malformed behind", row(x, 10, 1), BAD);
        CHECK.is("none that has it", row(x, 15, 1), NONE);
    }

    private static void bytesAreAtLeastTwo() {
        CHECK.is("0", row(Poked.section(0, 0, 10, 1), 10, 1), BAD);
        CHECK.is("1", row(Poked.section(0, 1, 10, 1), 10, 1), BAD);
        CHECK.is("2", row(Poked.section(0, 2, 10, 1), 10, 1), 1);
    }

    private static void bytesAreNoMoreThanThereAre() {
        // The whole section is one function's.
        for (int count = 119; count <= 255; count++) {
            ChainUnwinder x = Poked.section(0, count, 10, 1, 0);
            for (int i = 5; i < Poked.LENGTH; i++) {
                x.poke(i, 0);
            }
            boolean whole = count <= Poked.LENGTH - 2;
            CHECK.is("its bytes are " + count, row(x, 10, 1), whole ? 1 : BAD);
            CHECK.is("when it has not the place", row(x, 11, 1), count == Poked.LENGTH - 2 ? NONE : BAD);
        }
    }

    private static void aCountIsMissing() {
        ChainUnwinder x = Check.packed(8);
        x.poke(1, 1);
        CHECK.is("fewer than 2 bytes", row(x, 0, 1), BAD);
        ChainUnwinder y = Check.packed(3, 1, 9, 2);
        CHECK.is("section", Check.sectionOf(y), 0, 5, 0, 4, 66, 14, 2);
        y.poke(1, 4);
        y.poke(5, 0);
        CHECK.is("a single byte is left behind it", row(y, 2, 1), 1);
        CHECK.is("it is no count", row(y, 4, 1), BAD);
        y.poke(1, 3);
        CHECK.is("a count alone is left", row(y, 2, 1), 1);
        CHECK.is("its bytes are not there", row(y, 4, 1), BAD);
        y.poke(6, 0);
        CHECK.is("a count of 0", row(y, 4, 1), BAD);
    }

    private static void theHigherByteOfACount() {
        ChainUnwinder x = Check.packed(8);
        for (int high = 1; high < 256; high += 127) {
            x.poke(0, high);
            CHECK.is("256 times " + high, row(x, 0, 1), BAD);
            CHECK.is("256 times " + high, row(x, 1, 1), BAD);
        }
        x.poke(0, 0);
        CHECK.is("0", row(x, 0, 1), 1);
    }

    private static void theFirstFunctionThatHasThePlace() {
        ChainUnwinder x = Poked.section(0, 4, 0, 10, 14, 5, 0, 4, 5, 10, 14, 6, 0, 4, 0, 20, 14, 7);
        CHECK.is("the first", row(x, 9, 1), 5);
        CHECK.is("the second", row(x, 10, 1), 6);
        CHECK.is("the second's last", row(x, 14, 1), 6);
        CHECK.is("the third", row(x, 15, 1), 7);
        CHECK.is("none", row(x, 20, 1), NONE);
        x.poke(4, 1);
        CHECK.is("the first is malformed", row(x, 5, 1), BAD);
        // They need not lie in the order of their places.
        ChainUnwinder y = Poked.section(0, 4, 50, 1, 14, 5, 0, 4, 40, 1, 14, 6);
        CHECK.is("the lower one is behind", row(y, 40, 1), 6);
        CHECK.is("the higher one is before", row(y, 50, 1), 5);
    }

    private static void aFunctionWithoutPlaces() {
        ChainUnwinder x = Poked.section(0, 3, 10, 0, 1, 0, 4, 10, 1, 14, 5);
        CHECK.is("its program is not read", row(x, 10, 1), 5);
        CHECK.is("no place", row(x, 9, 1), NONE);
    }

    private static void malformedUpToAndWithTheFunction() {
        ChainUnwinder x = Poked.section(0, 4, 0, 5, 14, 5, 0, 4, 5, 5, 14, 6, 0, 1, 9);
        CHECK.is("the first count behind", row(x, 0, 1), 5);
        CHECK.is("the second count behind", row(x, 5, 1), 6);
        x.poke(7, 1);
        CHECK.is("not its own", row(x, 0, 1), 5);
        CHECK.is("its own", row(x, 5, 1), BAD);
        x.poke(1, 1);
        CHECK.is("its own, too", row(x, 0, 1), BAD);
    }

    private static void malformedWhenNoneHasThePlace() {
        ChainUnwinder x = Poked.section(0, 3, 0, 5, 1, 0, 3, 5, 5, 1);
        CHECK.is("malformed programs", row(x, 20, 1), NONE);
        int[] counts = {0, 1, 255};
        for (int count : counts) {
            ChainUnwinder first = Poked.section(0, count, 0, 5, 1);
            CHECK.is("the first one's count", row(first, 200, 1), BAD);
            ChainUnwinder second = Poked.section(0, 2, 0, 5, 0, count, 5, 5);
            CHECK.is("the second one's count", row(second, 200, 1), BAD);
        }
    }

    private static void placesOfAFunction() {
        ChainUnwinder x = Poked.programOf(10, 10, 14, 5);
        int[] none = {LOWEST, -1, 0, 9, 20, 255, 256, 266, FARTHEST};
        for (int place : none) {
            CHECK.is("place " + place, Check.wholeRow(x, place), NONE, NONE, NONE, NONE, NONE);
        }
        for (int place = 10; place < 20; place++) {
            CHECK.is("place " + place, Check.wholeRow(x, place), 0, 5, 0, 0, 0);
        }
    }

    private static void whatIs0To4() {
        ChainUnwinder x = Poked.program(12, 1, 6, 128, 7, 129, 8, 130, 9);
        int[] parts = {1, 6, 7, 8, 9};
        for (int what = -3; what < 9; what++) {
            CHECK.is("what " + what, row(x, 15, what), what >= 0 && what <= 4 ? parts[what] : NONE);
            CHECK.is("of no place", row(x, 20, what), NONE);
        }
        CHECK.is("the lowest", row(x, 15, LOWEST), NONE);
        CHECK.is("the farthest", row(x, 15, FARTHEST), NONE);
    }

    private static void malformedComesFirst() {
        int[] wrong = {LOWEST, -1, 5, FARTHEST};
        for (int what : wrong) {
            CHECK.is("program, what " + what, row(Poked.program(1), 10, what), BAD);
            CHECK.is("count, what " + what, row(Poked.section(0, 1), 10, what), BAD);
            CHECK.is("neither, what " + what, row(Poked.program(), 10, what), NONE);
        }
    }

    private static ChainUnwinder underWayAndMalformed() {
        ChainUnwinder x = Twins.underWay();
        x.poke(4, 1);
        return x;
    }

    private static void rowLeavesAll() {
        Twins.leaves(CHECK, "row", Twins::underWay, 2, x -> row(x, 2, 1));
        Twins.leaves(CHECK, "no place", Twins::underWay, NONE, x -> row(x, 19, 1));
        Twins.leaves(CHECK, "no part", Twins::underWay, NONE, x -> row(x, 2, 5));
        Twins.leaves(CHECK, "malformed", EdgeReadTest::underWayAndMalformed, BAD, x -> row(x, 2, 1));
    }
}
