/** Promise 1. */
public final class NewObjectTest {
    public static void main(String[] args) {
        Check check = new Check();
        ChainUnwinder x = new ChainUnwinder();
        check.is("NONE", ChainUnwinder.NONE, -1);
        check.is("section(0)", x.section(0), Check.NONE);
        check.is("poke(0, 0)", x.poke(0, 0), false);
        check.is("row(0, 0)", Check.row(x, 0, 0), Check.NONE);
        check.is("begin", x.begin(1, 2, 3, 4), false);
        check.is("step", Check.step(x), Check.STATE);
        for (int what = -1; what <= 7; what++) {
            check.is("machine(" + what + ")", x.machine(what), Check.NONE);
        }
        check.is("call(0)", x.call(0), Check.NONE);
        check.is("unwind", x.unwind(), Check.NONE);
        check.is("frame(0, 0)", x.frame(0, 0), Check.NONE);
        check.is("function(0, 1)", x.function(0, 1), Check.NONE);
        check.is("pack", x.pack(), 0);
        check.is("clear", x.clear(), 0);
        check.is("code", x.code(0, 1), 1);
        check.end();
    }
}
