import java.util.ArrayList;
import java.util.List;
import java.util.Random;

/**
 * Promises 5, 9 to 14 together: whatever packs without a fault is unwound, at each step of its run,
 * into just the calls that are under way, with the registers that each of them was made with.
 */
public final class TrueChainTest {
    private static final int RUNS = 6000;

    private final Check check;
    private final Random random;
    private int unwound;
    private int deepest;

    private TrueChainTest(Check check, long seed) {
        this.check = check;
        random = new Random(seed);
    }

    public static void main(String[] args) {
        Check check = new Check();
        TrueChainTest test = new TrueChainTest(check, 20261115L);
        for (int i = 0; i < RUNS; i++) {
            test.once();
        }
        System.out.println(test.unwound + " chains, the deepest of " + test.deepest + " frames");
        check.is("enough chains are unwound", test.unwound > RUNS, true);
        check.is("some of them are deep", test.deepest > 10, true);
        check.end();
    }

    private void once() {
        ChainUnwinder x = new ChainUnwinder();
        List<Integer> firsts = new ArrayList<>();
        int functions = 1 + random.nextInt(4);
        int length = 0;
        for (int i = 0; i < functions; i++) {
            List<Integer> body = new FunctionMaker(random, length, functions).make();
            if (length + body.size() > 96) {
                break;
            }
            firsts.add(length);
            for (int b : body) {
                Check.put(x, b);
            }
            length += body.size();
            x.function(firsts.get(i), length);
        }
        if (x.pack() > 0) {
            x.begin(random.nextInt(), random.nextInt(), random.nextInt(), random.nextInt(6));
            follow(x);
        }
    }

    private void follow(ChainUnwinder x) {
        List<List<Integer>> callers = new ArrayList<>();
        callers.add(List.of(255, 40, x.machine(2), x.machine(3), x.machine(4)));
        for (int i = 0; i < 60; i++) {
            compare(x, callers);
            int calls = x.machine(6);
            int place = Check.step(x);
            if (place < 0 || place == 255) {
                return;
            }
            if (x.machine(6) > calls) {
                callers.add(0, List.of(x.call(0), x.machine(1) + 1, x.machine(2), x.machine(3), x.machine(4)));
            } else if (x.machine(6) < calls) {
                callers.remove(0);
            }
        }
    }

    private void compare(ChainUnwinder x, List<List<Integer>> callers) {
        int due = callers.size() + 1;
        int frames = x.unwind();
        check.is("frames", frames, due > 20 ? Check.NONE : due);
        check.is("frame 0's place", x.frame(0, 0), frames < 0 ? Check.NONE : x.machine(0));
        for (int i = 1; i < frames && i < due; i++) {
            check.is("frame " + i, Check.frame(x, i).equals(callers.get(i - 1)), true);
        }
        unwound++;
        deepest = Math.max(deepest, frames);
    }

    /** Makes a function that is mostly without a fault. */
    private static final class FunctionMaker {
        private final Random random;
        private final int first;
        private final int functions;
        private final List<Integer> body = new ArrayList<>();
        private final int[] saved = new int[3];
        private int height = 1;
        private int frame;

        FunctionMaker(Random random, int first, int functions) {
            this.random = random;
            this.first = first;
            this.functions = functions;
        }

        List<Integer> make() {
            int instructions = random.nextInt(12);
            for (int i = 0; i < instructions; i++) {
                addAny();
            }
            for (int r = 0; r < 3; r++) {
                if (saved[r] != 0) {
                    add(15, r, height - saved[r]);
                }
            }
            add(4, height - 1);
            add(8);
            return body;
        }

        private void add(int... bytes) {
            for (int b : bytes) {
                body.add(b);
            }
        }

        private int highestSaved() {
            return Math.max(1, Math.max(saved[0], Math.max(saved[1], saved[2])));
        }

        private void addAny() {
            int r = random.nextInt(3);
            switch (random.nextInt(11)) {
                case 0:
                case 1:
                    add(1, r);
                    height++;
                    saved[r] = saved[r] == 0 ? height : saved[r];
                    break;
                case 2:
                    int more = random.nextInt(4);
                    add(3, more);
                    height += more;
                    break;
                case 3:
                    int fewer = random.nextInt(height - highestSaved() + 1);
                    add(4, fewer);
                    height -= fewer;
                    break;
                case 4:
                    addFrame();
                    break;
                case 5:
                    addSpoiling(r);
                    break;
                case 6:
                    addStore(r);
                    break;
                case 7:
                case 8:
                    // Each function passes by the call when A has come down to 0.
                    add(13, 10, first + body.size() + 5, 9, first + body.size() + 7);
                    add(7, first == 0 || random.nextInt(functions) == 0 ? 0 : first);
                    break;
                case 9:
                    add(10, first + body.size() + 2);
                    break;
                default:
                    add(0);
                    break;
            }
        }

        private void addFrame() {
            if (frame != 0 && frame <= height && frame >= highestSaved()) {
                add(6);
                height = frame;
            } else if (saved[0] != 0) {
                add(5);
                frame = height;
            }
        }

        private void addSpoiling(int r) {
            if (saved[r] == 0) {
                return;
            }
            if (random.nextBoolean()) {
                add(11, r, random.nextInt(256));
            } else {
                add(15, r, height - saved[r]);
                saved[r] = 0;
            }
            frame = r == 0 ? 0 : frame;
        }

        private void addStore(int r) {
            if (height < 2) {
                return;
            }
            int s = 2 + random.nextInt(height - 1);
            if (s == saved[0] || s == saved[1] || s == saved[2]) {
                return;
            }
            add(14, r, height - s);
            saved[r] = saved[r] == 0 ? s : saved[r];
        }
    }
}
