/** Promise 5: give. */
public final class GiveTest {
    private GiveTest() {
    }

    public static void main(String[] args) {
        TokenCircuit none = Due.made("int f(){int a=1;return a;}");
        Due.none("give(0, 1) without parameters", () -> none.give(0, 1));

        TokenCircuit x = Due.made("int f(int a,int b,int c,int d){int e=5;a=a+1;return a*1000+b*100+c*10+d;}");
        for (int i = 0; i < 4; i++) {
            Due.is("give " + i, x.give(i, i + 2), 0);
        }
        for (int i : new int[] {-1, 4, 5, 16, Integer.MIN_VALUE, Integer.MAX_VALUE}) {
            Due.none("give(" + i + ", 1)", () -> x.give(i, 1));
        }
        Due.result(x, "with all four", 3345);
        Due.is("a RUN changes no parameter", x.give(0, 0), 2);
        Due.is("given stays for RUNS to come", x.run(1), 0);
        Due.is("result", x.told(1), 1345);
        Due.is("again", x.give(3, Integer.MIN_VALUE), 5);
        Due.is("the least int", x.give(3, Integer.MAX_VALUE), Integer.MIN_VALUE);
        Due.is("the greatest int", x.give(3, 0), Integer.MAX_VALUE);

        TokenCircuit two = Due.made("int f(int a,int b){return a-b;}");
        Due.none("give(2, 1) of two", () -> two.give(2, 1));
        Due.result(two, "a-b", 2, 7, 5);
        Due.end();
    }
}
