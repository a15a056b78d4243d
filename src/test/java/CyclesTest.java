import java.lang.reflect.Field;

/**
 * Terms 3: how many cycles a RUN takes. No call tells it, so this test looks into the object: the
 * field cycles of the field work.
 */
public final class CyclesTest {
    private static final String TEXT = "int m[5];int f(int n){int s=0;while(n){m[n]=n;s=s+m[n-1];n=n-1;}return s;}";

    private CyclesTest() {
    }

    public static void main(String[] args) throws ReflectiveOperationException {
        rows();
        noRows();
        stalls();
        unended();
        Due.end();
    }

    private static int cycles(TokenCircuit x) throws ReflectiveOperationException {
        Field work = TokenCircuit.class.getDeclaredField("work");
        work.setAccessible(true);
        Field cycles = work.get(x).getClass().getDeclaredField("cycles");
        cycles.setAccessible(true);
        return cycles.getInt(work.get(x));
    }

    /** How many cycles a RUN takes with these rows and this STALL. */
    private static int taken(String text, int given, long pattern, int... latencies) throws ReflectiveOperationException {
        TokenCircuit x = Due.made(text);
        for (int latency : latencies) {
            x.latency(latency);
        }
        x.stall(pattern);
        if (x.count(3) > 0) {
            x.give(0, given);
        }
        Due.is("run", x.run(3000), 0);
        return cycles(x);
    }

    private static void rows() throws ReflectiveOperationException {
        Due.sentence("The k-th ACCESS of a RUN (from 0 on) is answered after a LATENCY: that in row k modulo how many rows are told");
        int[] many = new int[32];
        for (int i = 0; i < 32; i++) {
            many[i] = 1 + i * 37 % 64;
        }
        int[][] lists = {{1}, {2}, {64}, {1, 64}, {64, 1}, {3, 5, 7}, {7, 5, 3}, {1, 1, 1, 9}, many};
        for (int[] list : lists) {
            for (int n : new int[] {0, 1, 2, 15, 16, 17, 100}) {
                int more = 0;
                for (int k = 0; k < 2 * n; k++) {
                    more += list[k % list.length] - 1;
                }
                Due.is("cycles of " + 2 * n + " ACCESSES with " + list.length + " rows", taken(TEXT, n, 0, list), taken(TEXT, n, 0) + more);
            }
        }
        // From 0 on again with each RUN.
        TokenCircuit x = Due.made(TEXT);
        x.latency(1);
        x.latency(1);
        x.latency(1);
        x.latency(50);
        x.give(0, 1);
        x.run(3000);
        int first = cycles(x);
        x.run(3000);
        Due.is("the second RUN", cycles(x), first);
        x.run(3000);
        Due.is("the third RUN", cycles(x), first);
    }

    private static void noRows() throws ReflectiveOperationException {
        Due.sentence("1 without rows");
        for (int n : new int[] {0, 1, 2, 40}) {
            Due.is("as with one row of 1", taken(TEXT, n, 0), taken(TEXT, n, 0, 1));
        }
        TokenCircuit x = Due.made(TEXT);
        x.latency(64);
        x.free();
        x.give(0, 9);
        x.run(3000);
        Due.is("rows that are free again", cycles(x), taken(TEXT, 9, 0));
        x.latency(3);
        x.run(3000);
        Due.is("a row of its own again", cycles(x), taken(TEXT, 9, 0, 3));
    }

    private static void stalls() throws ReflectiveOperationException {
        Due.sentence("In cycle c (from 0 on) the result is not taken if bit c modulo 64 of STALL is 1.");
        for (int n = 0; n < 8; n++) {
            // Without STALL it is taken in the last cycle of all.
            int held = taken(TEXT, n, 0) - 1;
            for (int bit = 0; bit < 64; bit++) {
                long one = 1L << bit;
                Due.is("bit " + bit, taken(TEXT, n, one), held % 64 == bit ? held + 2 : held + 1);
                int wait = Math.floorMod(bit - held, 64);
                Due.is("all bits but " + bit, taken(TEXT, n, ~one), held + wait + 1);
            }
            Due.is("all bits", taken(TEXT, n, -1), held + 1);
        }
    }

    private static void unended() throws ReflectiveOperationException {
        Due.sentence("if one STEP more than that would begin, it ends there, UNENDED");
        TokenCircuit x = Due.made("int m[1];int f(){while(1)m[0]=m[0]+1;}");
        x.stall(-2);
        x.run(3);
        int few = cycles(x);
        x.latency(64);
        x.run(3);
        Due.is("it waits for memory, and for nobody who takes a result", cycles(x), few + 2 * 63);
    }
}
