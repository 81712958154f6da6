import java.util.Random;

/** Rule 7 of the language: whatever is called with whatever, only what the document tells is thrown. */
public final class AnyCallTest {
    private static final int OBJECTS = 1500;
    private static final int CALLS = 512;

    private final Random random = new Random(7L);
    private int state;
    private int index;
    private int argument;

    public static void main(String[] args) {
        Check check = new Check();
        AnyCallTest test = new AnyCallTest();
        for (int i = 0; i < OBJECTS; i++) {
            ChainUnwinder x = new ChainUnwinder();
            for (int k = 0; k < CALLS; k++) {
                test.callAny(x);
            }
        }
        check.is("each exception is seen", test.state > 0 && test.index > 0 && test.argument > 0, true);
        sameCallsSameAnswers(check);
        check.end();
    }

    private int any() {
        switch (random.nextInt(6)) {
            case 0:
                return random.nextInt();
            case 1:
                return random.nextInt(300) - 20;
            case 2:
                return random.nextBoolean() ? Integer.MAX_VALUE : Integer.MIN_VALUE;
            default:
                return random.nextInt(42) - 1;
        }
    }

    private long anyCode() {
        long word = 0;
        for (int i = 0; i < 8; i++) {
            word = word << 8 | (random.nextInt(20) == 0 ? random.nextInt(256) : random.nextInt(16));
        }
        return word;
    }

    private void callAny(ChainUnwinder x) {
        switch (random.nextInt(16)) {
            case 0:
                x.code(anyCode(), random.nextInt(20) == 0 ? any() : 1 + random.nextInt(8));
                break;
            case 1:
                int from = any();
                x.function(from, random.nextBoolean() ? any() : from + 1 + random.nextInt(12));
                break;
            case 2:
                if (random.nextInt(8) == 0) {
                    x.clear();
                }
                break;
            case 3:
                packReturning(x);
                break;
            case 4:
                x.section(any());
                break;
            case 5:
                x.poke(random.nextInt(24), random.nextInt(256));
                x.poke(any(), any());
                break;
            case 6:
                rowOf(x);
                break;
            case 7:
                x.begin(any(), any(), any(), any());
                break;
            case 8:
                x.machine(any());
                x.call(any());
                break;
            case 9:
                x.unwind();
                x.frame(any(), any());
                break;
            default:
                stepOf(x);
                break;
        }
    }

    /** Code of any kind hardly packs, so that a section would hardly be there. */
    private void packReturning(ChainUnwinder x) {
        if (x.pack() <= 0 && x.section(0) < 0) {
            x.clear();
            Check.put(x, 1, 0, 5, 7, 0, 7, 10, 2, 0, 8, 8);
            x.function(0, 10);
            x.function(10, 11);
            x.pack();
        }
    }

    private void rowOf(ChainUnwinder x) {
        try {
            x.row(any(), random.nextInt(7) - 1);
        } catch (IllegalArgumentException e) {
            argument++;
        }
    }

    private void stepOf(ChainUnwinder x) {
        int before = x.machine(0);
        try {
            x.step();
        } catch (IllegalStateException e) {
            state++;
        } catch (IndexOutOfBoundsException e) {
            if (e.getClass() != IndexOutOfBoundsException.class || x.machine(0) != before) {
                throw new AssertionError("not thrown by a throw statement", e);
            }
            index++;
        }
    }

    private static void sameCallsSameAnswers(Check check) {
        ChainUnwinder x = Check.packed(1, 0, 5, 2, 0, 8);
        ChainUnwinder y = Check.packed(1, 0, 5, 2, 0, 8);
        y.begin(1, 2, 3, 4);
        Check.steps(y, 2);
        check.is("objects do not share a section", Check.sectionOf(x).equals(Check.sectionOf(y)), true);
        check.is("nor a run", x.machine(0), Check.NONE);
        y.poke(0, 9);
        check.is("nor its bytes", x.section(0), 0);
    }
}
