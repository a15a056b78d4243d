/** Promises 12 and 13: told and write. */
public final class ToldTest {
    private ToldTest() {
    }

    public static void main(String[] args) {
        ofTheLatestRun();
        writes();
        Due.end();
    }

    private static void all(TokenCircuit x, String what, int... want) {
        for (int i = 0; i < 6; i++) {
            Due.is(what + " told(" + i + ")", x.told(i), want[i]);
        }
        for (int i : new int[] {-1, 6, 7, Integer.MIN_VALUE, Integer.MAX_VALUE}) {
            Due.is(what + " told(" + i + ")", x.told(i), -1);
        }
    }

    private static void ofTheLatestRun() {
        TokenCircuit x = new TokenCircuit();
        all(x, "ahead of all", -1, 0, 0, 0, 0, 0);
        Due.build(x, "int m[4];int f(int n){int i=0;while(i<n){m[i]=m[i]+m[i+1]+1;i=i+1;}return n*100;}");
        all(x, "ahead of a run", -1, 0, 0, 0, 0, 0);
        x.give(0, 3);
        x.run(3000);
        all(x, "three times", 0, 300, 9, 6, 3, 1);
        x.run(4);
        all(x, "run(4)", 1, 0, 4, 2, 1, 0);
        x.give(0, 9);
        x.run(3000);
        all(x, "more than there are cells", 0, 900, 21, 18, 9, 1);
        x.run(3001);
        all(x, "behind a run that was refused", 0, 900, 21, 18, 9, 1);
        x.give(0, 0);
        x.run(2);
        all(x, "run(2)", 1, 0, 2, 0, 0, 0);
        x.run(3);
        all(x, "run(3)", 0, 0, 3, 0, 0, 1);
    }

    private static void writes() {
        TokenCircuit x = Due.made("int p[3];int q[10];int f(int n){int i=0;while(i<n){p[i]=i*2;q[-i]=p[i]+1;i=i+1;}return q[0];}");
        Due.none("write(0, 0) ahead of a run", () -> x.write(0, 0));
        x.give(0, 4);
        x.run(3000);
        for (int i = 0; i < 4; i++) {
            Due.is("array", x.write(2 * i, 0), 0);
            Due.is("cell", x.write(2 * i, 1), i % 3);
            Due.is("value", x.write(2 * i, 2), 2 * i);
            Due.is("array", x.write(2 * i + 1, 0), 1);
            Due.is("cell", x.write(2 * i + 1, 1), (10 - i) % 10);
            Due.is("value", x.write(2 * i + 1, 2), 2 * i + 1);
        }
        for (int what : new int[] {-1, 3, 4, Integer.MIN_VALUE, Integer.MAX_VALUE}) {
            Due.is("write(0, " + what + ")", x.write(0, what), -1);
            Due.is("write(7, " + what + ")", x.write(7, what), -1);
        }
        for (int i : new int[] {-1, 8, 199, 200, Integer.MIN_VALUE, Integer.MAX_VALUE}) {
            for (int what = -1; what <= 3; what++) {
                int which = what;
                Due.none("write(" + i + ", " + what + ")", () -> x.write(i, which));
            }
        }
        x.poke(0, 0, 5);
        Due.none("poke is no write of a run", () -> x.write(8, 0));
        firstTwoHundred(x);
        x.give(0, 1);
        x.run(3000);
        Due.is("of the latest run alone", x.write(1, 2), 1);
        Due.none("of the latest run alone", () -> x.write(2, 0));
        x.run(2);
        Due.none("UNENDED ahead of all writes", () -> x.write(0, 0));
        x.run(3);
        Due.is("UNENDED behind the writes", x.write(1, 2), 1);
    }

    private static void firstTwoHundred(TokenCircuit x) {
        x.give(0, 100);
        x.run(3000);
        Due.is("200 writes", x.told(4), 200);
        Due.is("the last", x.write(199, 2), 199);
        Due.none("none behind", () -> x.write(200, 2));
        x.give(0, 101);
        x.run(3000);
        Due.is("202 writes", x.told(4), 202);
        Due.is("the last that is kept", x.write(199, 2), 199);
        Due.none("not kept", () -> x.write(200, 2));
        Due.none("not kept", () -> x.write(201, 2));
        Due.is("but done", x.cell(1, 0), 201);
    }
}
