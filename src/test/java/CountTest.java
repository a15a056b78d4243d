/** Promise 14: count. */
public final class CountTest {
    private CountTest() {
    }

    public static void main(String[] args) {
        TokenCircuit x = new TokenCircuit();
        all(x, "new", 0, 0, 0, 0, 0, 0, 0);
        x.feed(0, 0, 0, 0, 0);
        x.latency(9);
        all(x, "fed", 20, 0, 0, 0, 0, 0, 1);
        x.build(20);
        all(x, "behind a fault", 0, 0, 0, 0, 0, 0, 1);
        Due.build(x, "int a[1];int b[2];int f(int p){int q=1;if(p){int r=2;while(r)r=0;}else{int r=3;}return 0;while(1)int s=p;}");
        all(x, "a program", 0, 1, 2, 1, 5, 3, 1);
        x.run(100);
        all(x, "a run", 0, 1, 2, 1, 5, 3, 1);
        x.run(1);
        x.free();
        all(x, "UNENDED", 0, 1, 2, 1, 5, 3, 0);
        Due.feed(x, "int f(){}");
        all(x, "fed again", 20, 1, 2, 1, 5, 3, 0);
        x.build(9);
        all(x, "another program", 0, 1, 0, 0, 0, 0, 0);
        Due.build(x, "int f(");
        all(x, "another fault", 0, 1, 0, 0, 0, 0, 0);
        Due.build(x, "int f(int a,int b,int c,int d){" + "if(a){}".repeat(40) + "}");
        all(x, "forty ifs", 0, 1, 0, 4, 4, 40, 0);
        Due.end();
    }

    private static void all(TokenCircuit x, String what, int... want) {
        for (int i = 0; i < 7; i++) {
            Due.is(what + " count(" + i + ")", x.count(i), want[i]);
        }
        for (int i = 7; i <= 10; i++) {
            Due.is(what + " count(" + i + ")", x.count(i), 0);
        }
        for (int i : new int[] {-1, 11, 12, Integer.MIN_VALUE, Integer.MAX_VALUE}) {
            Due.is(what + " count(" + i + ")", x.count(i), -1);
        }
    }
}
