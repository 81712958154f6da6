import java.util.ArrayList;
import java.util.List;

/** Sections of any bytes, made by poking a packed one; and what the words are, read by such a section. */
final class Poked {
    /** How many bytes a section of this class has. */
    static final int LENGTH = 124;

    /** The places of the bytes n and s of registers 0 .. 2 in the section that reads words. */
    private static final int NUMBER = 5;
    private static final int[] SAVED = {7, 9, 11};

    private Poked() {
    }

    /** A section that begins with these bytes; the rest of it is a function without places. */
    static ChainUnwinder section(int... bytes) {
        ChainUnwinder x = new ChainUnwinder();
        for (int i = 0; i < 10; i++) {
            x.code(0x0301040103010401L, 8);
        }
        x.code(8, 1);
        x.function(0, 81);
        if (x.pack() != LENGTH) {
            throw new AssertionError("the section to poke is not packed");
        }
        for (int i = 0; i < bytes.length; i++) {
            x.poke(i, bytes[i]);
        }
        int rest = LENGTH - bytes.length;
        int[] empty = {0, rest - 2, 0, 0};
        for (int i = 0; i < Math.min(rest, empty.length); i++) {
            x.poke(bytes.length + i, empty[i]);
        }
        return x;
    }

    /** A section whose first function has the places 10 .. 19 and this program. */
    static ChainUnwinder program(int... told) {
        return programOf(10, 10, told);
    }

    /** A section whose first function has this first place, this length and this program. */
    static ChainUnwinder programOf(int first, int length, int... told) {
        int[] bytes = new int[4 + told.length];
        bytes[1] = 2 + told.length;
        bytes[2] = first;
        bytes[3] = length;
        System.arraycopy(told, 0, bytes, 4, told.length);
        return section(bytes);
    }

    /** An object with this code as its only function, whose section is there to read words by. */
    static ChainUnwinder watched(int... code) {
        ChainUnwinder x = section(0, 10, 0, 255, 14, 1, 128, 0, 129, 0, 130, 0);
        x.clear();
        Check.put(x, code);
        x.function(0, code.length);
        return x;
    }

    /** All words of a watched object, as long as word 39 is 255 and its place is 0 .. 254. */
    static List<Integer> words(ChainUnwinder x) {
        List<Integer> words = new ArrayList<>();
        x.poke(NUMBER, 40 - x.machine(1));
        for (int word = 0; word < 40; word += 3) {
            for (int r = 0; r < 3; r++) {
                x.poke(SAVED[r], Math.max(0, 40 - (word + r)));
            }
            if (x.unwind() != 2) {
                throw new AssertionError("the words cannot be read");
            }
            for (int r = 0; r < 3 && word + r < 40; r++) {
                words.add(x.frame(1, 2 + r));
            }
        }
        return words;
    }
}
