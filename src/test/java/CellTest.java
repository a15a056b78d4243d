/** Promises 6, 7 and 15: poke, cell and size. */
public final class CellTest {
    private CellTest() {
    }

    public static void main(String[] args) {
        edges();
        allArrays();
        withRuns();
        Due.end();
    }

    private static void edges() {
        TokenCircuit x = Due.made("int a[1];int b[256];int c[3];int f(){return a[0]+b[255]+c[2];}");
        Due.is("size(0)", x.size(0), 1);
        Due.is("size(1)", x.size(1), 256);
        Due.is("size(2)", x.size(2), 3);
        for (int a : new int[] {-1, 3, 8, Integer.MIN_VALUE, Integer.MAX_VALUE}) {
            Due.is("size(" + a + ")", x.size(a), -1);
            Due.none("cell(" + a + ", 0)", () -> x.cell(a, 0));
            Due.none("poke(" + a + ", 0, 1)", () -> x.poke(a, 0, 1));
        }
        int[] sizes = {1, 256, 3};
        for (int a = 0; a < 3; a++) {
            int array = a;
            for (int i : new int[] {-1, sizes[a], 257, Integer.MIN_VALUE, Integer.MAX_VALUE}) {
                Due.none("cell(" + a + ", " + i + ")", () -> x.cell(array, i));
                Due.none("poke(" + a + ", " + i + ", 1)", () -> x.poke(array, i, 1));
            }
            int last = sizes[a] - 1;
            Due.is("poke the last of " + a, x.poke(a, last, 10 + a), 0);
            Due.is("cell the last of " + a, x.cell(a, last), 10 + a);
        }
        Due.result(x, "what was poked", 33);
        Due.is("poke what was there", x.poke(1, 255, Integer.MIN_VALUE), 11);
        Due.is("poke the least int", x.poke(1, 255, 1), Integer.MIN_VALUE);
    }

    /** No cell of one ARRAY is a cell of another one. */
    private static void allArrays() {
        StringBuilder text = new StringBuilder();
        for (int a = 0; a < 8; a++) {
            text.append("int a").append(a).append('[').append(a == 3 ? 128 : 7 * a + 1).append("];");
        }
        TokenCircuit x = Due.made(text + "int f(){}");
        for (int a = 0; a < 8; a++) {
            int size = a == 3 ? 128 : 7 * a + 1;
            Due.is("size of " + a, x.size(a), size);
            for (int i = 0; i < size; i++) {
                Due.is("poke", x.poke(a, i, 1000 * a + i), 0);
            }
        }
        for (int a = 0; a < 8; a++) {
            int size = x.size(a);
            for (int i = (size - 1) % 3; i < size; i += 3) {
                Due.is("cell " + i + " of " + a, x.cell(a, i), 1000 * a + i);
            }
        }
    }

    private static void withRuns() {
        TokenCircuit x = Due.made("int s[5];int f(int n){int i=0;while(i<n){s[i]=s[i]+i*i;i=i+1;}return s[3];}");
        x.poke(0, 1, 100);
        Due.result(x, "first", 9, 5);
        Due.is("cell 1", x.cell(0, 1), 101);
        Due.is("cell 4", x.cell(0, 4), 16);
        Due.is("poke", x.poke(0, 3, -9), 9);
        Due.result(x, "second", 0);
        Due.is("cell 1", x.cell(0, 1), 102);
        Due.is("a RUN that is UNENDED leaves what it wrote", x.run(3), 1);
        Due.is("cell 0", x.cell(0, 0), 0);
        Due.is("one more STEP", x.run(5), 1);
        Due.is("cell 1", x.cell(0, 1), 103);
        Due.is("cell 2", x.cell(0, 2), 8);
    }
}
