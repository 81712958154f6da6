/** Promises 5 to 7: what is packed, section, poke. */
public final class SectionTest {
    private static final Check CHECK = new Check();

    public static void main(String[] args) {
        linksAndNumbers();
        registers();
        placesThatAreNotKnown();
        advances();
        aLongProgram();
        aVeryLongProgram();
        functionsKnowNothingOfEachOther();
        packAnew();
        pokes();
        CHECK.end();
    }

    private static void due(int[] code, int... section) {
        ChainUnwinder x = Check.one(code);
        CHECK.is("pack", x.pack(), section.length);
        CHECK.is("section", Check.sectionOf(x), section);
    }

    private static int[] code(int... bytes) {
        return bytes;
    }

    private static void linksAndNumbers() {
        due(code(8), 0, 2, 0, 1);
        due(code(3, 4, 4, 4, 8), 0, 8, 0, 5, 66, 14, 5, 66, 14, 1);
        // FP is the link from 5 on; what SP does behind it changes no row.
        due(code(1, 0, 3, 2, 5, 3, 3, 6, 4, 2, 2, 0, 8),
                0, 18, 0, 13, 66, 14, 2, 128, 2, 66, 14, 4, 65, 13, 1, 71, 12, 0, 1, 192);
        // Giving FP back changes the link, and the number when the height is another one.
        due(code(1, 0, 5, 3, 2, 15, 0, 2, 4, 3, 8),
                0, 18, 0, 11, 66, 14, 2, 128, 2, 65, 13, 1, 69, 12, 0, 4, 192, 66, 14, 1);
        // .. and the link alone when it is the same.
        due(code(1, 0, 5, 15, 0, 0, 4, 1, 8),
                0, 17, 0, 9, 66, 14, 2, 128, 2, 65, 13, 1, 67, 13, 0, 192, 66, 14, 1);
        // 5 again: another number with the same link.
        due(code(1, 0, 5, 3, 1, 5, 4, 1, 2, 0, 8),
                0, 18, 0, 11, 66, 14, 2, 128, 2, 65, 13, 1, 67, 14, 3, 68, 12, 0, 1, 192);
    }

    private static void registers() {
        due(code(3, 3, 14, 2, 0, 14, 1, 1, 14, 0, 2, 15, 0, 2, 15, 1, 1, 15, 2, 0, 4, 3, 8),
                0, 23, 0, 23, 66, 14, 4, 67, 130, 4, 67, 129, 3, 67, 128, 2,
                67, 192, 67, 193, 67, 194, 66, 14, 1);
        // What is saved already is not saved a second time.
        due(code(1, 1, 1, 1, 4, 1, 2, 1, 8),
                0, 17, 0, 9, 66, 14, 2, 129, 2, 66, 14, 3, 66, 14, 2, 66, 14, 1, 193);
        // A spoilt register stays saved; another word given to it does not change where.
        due(code(1, 2, 11, 2, 5, 3, 1, 15, 2, 0, 4, 1, 2, 2, 8),
                0, 17, 0, 15, 66, 14, 2, 130, 2, 69, 14, 3, 69, 14, 2, 66, 14, 1, 194);
        // Several registers at one place, in their order.
        due(code(1, 2, 1, 1, 10, 11, 2, 1, 2, 2, 8, 2, 1, 2, 2, 8),
                0, 35, 0, 16, 66, 14, 2, 130, 2, 66, 14, 3, 129, 3, 68, 14, 2, 193, 66, 14, 1, 194,
                65, 14, 3, 129, 3, 130, 2, 66, 14, 2, 193, 66, 14, 1, 194);
    }

    private static void placesThatAreNotKnown() {
        // Places 4 .. 6 are passed by, and told nothing of.
        due(code(3, 1, 9, 7, 0, 3, 1, 4, 1, 8), 0, 8, 0, 10, 66, 14, 2, 71, 14, 1);
        due(code(3, 1, 4, 1, 8, 1, 1, 77), 0, 8, 0, 8, 66, 14, 2, 66, 14, 1);
    }

    private static void advances() {
        for (int far = 62; far <= 65; far++) {
            int[] bytes = new int[far + 3];
            bytes[far - 2] = 1;
            bytes[far - 1] = 1;
            bytes[far] = 2;
            bytes[far + 1] = 1;
            bytes[far + 2] = 8;
            if (far <= 63) {
                due(bytes, 0, 11, 0, far + 3, 64 + far, 14, 2, 129, 2, 66, 14, 1, 193);
            } else {
                due(bytes, 0, 12, 0, far + 3, 2, far, 14, 2, 129, 2, 66, 14, 1, 193);
            }
        }
        ChainUnwinder x = new ChainUnwinder();
        Check.put(x, 0, 0, 0, 3, 1, 4, 1, 8);
        x.function(2, 8);
        CHECK.is("pack", x.pack(), 10);
        CHECK.is("an advance is from the function's first place",
                Check.sectionOf(x), 0, 8, 2, 6, 67, 14, 2, 66, 14, 1);
    }

    private static void aLongProgram() {
        ChainUnwinder x = new ChainUnwinder();
        for (int i = 0; i < 23; i++) {
            Check.put(x, 1, 1, 2, 1);
        }
        Check.put(x, 8);
        x.function(0, 93);
        CHECK.is("pack", x.pack(), 4 + 23 * 9);
        for (int i = 0; i < 23; i++) {
            CHECK.is("row between", Check.wholeRow(x, 4 * i + 2), 0, 2, 0, 2, 0);
            CHECK.is("row behind", Check.wholeRow(x, 4 * i + 4), 0, 1, 0, 0, 0);
        }
    }

    /** Two chains of jumps lie in one another, so that every second place has a whole new row. */
    private static void aVeryLongProgram() {
        ChainUnwinder x = new ChainUnwinder();
        Check.put(x, 10, 12, 1, 0, 1, 1, 1, 2, 3, 1, 9, 21, 1, 1, 1, 2, 1, 0, 5, 9, 23);
        for (int place = 21; place < 95; place += 2) {
            Check.put(x, 9, place < 91 ? place + 4 : place);
        }
        x.function(0, 95);
        CHECK.is("pack", x.pack(), 416);
        CHECK.is("the higher byte of the count", x.section(0), 1);
        CHECK.is("the lower one", x.section(1), 414 - 256);
        for (int place = 21; place < 95; place += 4) {
            CHECK.is("row by SP", Check.wholeRow(x, place), 0, 5, 2, 3, 4);
        }
        for (int place = 23; place < 95; place += 4) {
            CHECK.is("row by FP", Check.wholeRow(x, place), 1, 4, 4, 2, 3);
        }
        int[] last = {66, 12, 0, 5, 128, 2, 129, 3, 130, 4};
        for (int i = 0; i < last.length; i++) {
            CHECK.is("a whole new row", x.section(406 + i), last[i]);
        }
        CHECK.is("no byte behind", x.section(416), Check.NONE);
    }

    /** Each of them ends with all registers saved and FP as the link. */
    private static void functionsKnowNothingOfEachOther() {
        ChainUnwinder x = new ChainUnwinder();
        Check.put(x, 1, 0, 1, 1, 1, 2, 5, 9, 7, 1, 0, 1, 1, 1, 2, 5, 9, 16, 8);
        x.function(0, 9);
        x.function(9, 18);
        x.function(18, 19);
        CHECK.is("pack", x.pack(), 48);
        CHECK.is("section", Check.sectionOf(x),
                0, 20, 0, 9, 66, 14, 2, 128, 2, 66, 14, 3, 129, 3, 66, 14, 4, 130, 4, 65, 13, 1,
                0, 20, 9, 9, 66, 14, 2, 128, 2, 66, 14, 3, 129, 3, 66, 14, 4, 130, 4, 65, 13, 1,
                0, 2, 18, 1);
        CHECK.is("row at last", Check.wholeRow(x, 17), 1, 4, 2, 3, 4);
        CHECK.is("row at first", Check.wholeRow(x, 9), 0, 1, 0, 0, 0);
        CHECK.is("row of the last function", Check.wholeRow(x, 18), 0, 1, 0, 0, 0);
    }

    private static void packAnew() {
        ChainUnwinder x = Check.packed(3, 1, 4, 1, 8);
        x.clear();
        Check.put(x, 8);
        x.function(0, 1);
        CHECK.is("pack anew", x.pack(), 4);
        CHECK.is("all is new", Check.sectionOf(x), 0, 2, 0, 1);
        CHECK.is("nothing behind", x.section(4), Check.NONE);
        x.begin(0, 0, 0, 0);
        CHECK.is("pack leaves the run", x.pack(), 4);
        CHECK.is("it goes on", Check.step(x), 255);
    }

    private static void pokes() {
        ChainUnwinder x = Check.packed(0, 8);
        CHECK.is("poke", x.poke(3, 255), true);
        CHECK.is("poked", Check.sectionOf(x), 0, 2, 0, 255);
        CHECK.is("poke", x.poke(0, 0), true);
        CHECK.is("too high", x.poke(0, 256), false);
        CHECK.is("too low", x.poke(0, -1), false);
        CHECK.is("no such byte", x.poke(4, 0), false);
        CHECK.is("none before", x.poke(-1, 0), false);
        CHECK.is("far", x.poke(Integer.MAX_VALUE, 0), false);
        CHECK.is("far before", x.poke(Integer.MIN_VALUE, 0), false);
        CHECK.is("nothing was done", Check.sectionOf(x), 0, 2, 0, 255);
        CHECK.is("section(-1)", x.section(-1), Check.NONE);
        CHECK.is("section(4)", x.section(4), Check.NONE);
        CHECK.is("section far", x.section(Integer.MIN_VALUE), Check.NONE);
        CHECK.is("section far", x.section(Integer.MAX_VALUE), Check.NONE);
        CHECK.is("pack", x.pack(), 4);
        CHECK.is("packed over it", Check.sectionOf(x), 0, 2, 0, 2);
    }
}
