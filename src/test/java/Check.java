import java.util.ArrayList;
import java.util.List;

/** Counts answers that are not as due, and builds what many tests begin with. */
final class Check {
    static final int NONE = ChainUnwinder.NONE;
    /** What stands for a call that throws IllegalArgumentException. */
    static final int ARGUMENT = -1001;
    /** What stands for a call that throws IllegalStateException. */
    static final int STATE = -1002;
    /** What stands for a call that throws IndexOutOfBoundsException. */
    static final int INDEX = -1003;

    private int checks;
    private int wrong;

    void is(String what, long got, long due) {
        checks++;
        if (got != due) {
            wrong++;
            System.out.println(what + ": answered " + got + ", due is " + due);
        }
    }

    void is(String what, boolean got, boolean due) {
        is(what, got ? 1 : 0, due ? 1 : 0);
    }

    void is(String what, List<Integer> got, int... due) {
        List<Integer> wanted = new ArrayList<>();
        for (int value : due) {
            wanted.add(value);
        }
        checks++;
        if (!got.equals(wanted)) {
            wrong++;
            System.out.println(what + ": answered " + got + ", due is " + wanted);
        }
    }

    void end() {
        System.out.println(checks + " answers, " + wrong + " not as due");
        if (wrong != 0 || checks == 0) {
            System.exit(1);
        }
    }

    /** What is looked at, and the bytes that it is looked at with. */
    static String text(String what, int... bytes) {
        StringBuilder text = new StringBuilder(what);
        for (int b : bytes) {
            text.append(' ').append(b);
        }
        return text.toString();
    }

    /** Appends these bytes to the code. */
    static void put(ChainUnwinder x, int... code) {
        for (int b : code) {
            if (x.code(b, 1) == NONE) {
                throw new AssertionError("no room for the test's code");
            }
        }
    }

    /** A new object with this code as its only function. */
    static ChainUnwinder one(int... code) {
        ChainUnwinder x = new ChainUnwinder();
        put(x, code);
        if (x.function(0, code.length) != 1) {
            throw new AssertionError("the test's function is refused");
        }
        return x;
    }

    /** As one, packed. */
    static ChainUnwinder packed(int... code) {
        ChainUnwinder x = one(code);
        if (x.pack() < 0) {
            throw new AssertionError("the test's function is not packed");
        }
        return x;
    }

    static List<Integer> sectionOf(ChainUnwinder x) {
        List<Integer> bytes = new ArrayList<>();
        for (int i = 0; x.section(i) != NONE; i++) {
            bytes.add(x.section(i));
        }
        return bytes;
    }

    static int row(ChainUnwinder x, int place, int what) {
        try {
            return x.row(place, what);
        } catch (IllegalArgumentException e) {
            return ARGUMENT;
        }
    }

    static List<Integer> wholeRow(ChainUnwinder x, int place) {
        List<Integer> parts = new ArrayList<>();
        for (int what = 0; what < 5; what++) {
            parts.add(row(x, place, what));
        }
        return parts;
    }

    static int step(ChainUnwinder x) {
        try {
            return x.step();
        } catch (IllegalStateException e) {
            return STATE;
        } catch (IndexOutOfBoundsException e) {
            return INDEX;
        }
    }

    static int steps(ChainUnwinder x, int n) {
        int place = NONE;
        for (int i = 0; i < n; i++) {
            place = step(x);
        }
        return place;
    }

    static List<Integer> state(ChainUnwinder x) {
        List<Integer> parts = new ArrayList<>();
        for (int what = 0; what < 7; what++) {
            parts.add(x.machine(what));
        }
        return parts;
    }

    static List<Integer> frame(ChainUnwinder x, int i) {
        List<Integer> parts = new ArrayList<>();
        for (int what = 0; what < 5; what++) {
            parts.add(x.frame(i, what));
        }
        return parts;
    }
}
