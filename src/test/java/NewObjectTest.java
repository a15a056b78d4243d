/** Promise 1: a new object. */
public final class NewObjectTest {
    private NewObjectTest() {
    }

    public static void main(String[] args) {
        TokenCircuit x = new TokenCircuit();
        for (int what = 0; what <= 10; what++) {
            Due.is("count(" + what + ") of a new object", x.count(what), 0);
        }
        Due.is("told(0) of a new object", x.told(0), -1);
        for (int what = 1; what <= 5; what++) {
            Due.is("told(" + what + ") of a new object", x.told(what), 0);
        }
        Due.is("fault(0) of a new object", x.fault(0), 0);
        Due.is("fault(1) of a new object", x.fault(1), -1);
        Due.is("size(0) of a new object", x.size(0), -1);
        Due.is("run(1) of a new object", x.run(1), -1);
        Due.is("build(1) of a new object", x.build(1), -2);
        Due.is("free() of a new object", x.free(), 0);
        Due.is("stall(0) of a new object", x.stall(0), 0);
        Due.none("give(0, 1) of a new object", () -> x.give(0, 1));
        Due.none("poke(0, 0, 1) of a new object", () -> x.poke(0, 0, 1));
        Due.none("cell(0, 0) of a new object", () -> x.cell(0, 0));
        Due.none("write(0, 0) of a new object", () -> x.write(0, 0));
        Due.is("NONE", TokenCircuit.NONE, -1);
        Due.end();
    }
}
