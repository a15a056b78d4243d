import java.util.Arrays;

/** Terms 3, the edges of the circuit: however long memory takes and the result is held up, what comes out is the same. */
public final class CircuitEdgeTest {
    private static final String TEXT = "int m[7];int q[3];int f(int n){int i=0;int s=0;"
        + "while(i<n){m[i*3]=m[i]+i;q[m[i]]=i;s=s+m[i+1]*q[i];if(s%2)s=s+1;else m[0]=s;i=i+1;}return s;}";

    private CircuitEdgeTest() {
    }

    public static void main(String[] args) {
        rows();
        noRows();
        stalls();
        always0();
        Due.end();
    }

    /** All that a RUN leads to, in words. */
    private static String outcome(TokenCircuit x, int given, int limit) {
        StringBuilder line = new StringBuilder();
        x.give(0, given);
        line.append(x.run(limit));
        for (Story.Look look : new Story.Look[] {Story.Look.TOLD, Story.Look.WRITES, Story.Look.CELLS, Story.Look.ALWAYS}) {
            line.append(" / ").append(Story.at(x, look));
        }
        return line.toString();
    }

    private static void same(String what, int[] latencies, long pattern) {
        for (int given : new int[] {0, 1, 9, 90}) {
            for (int limit : new int[] {1, 5, 3000}) {
                TokenCircuit x = Due.made(TEXT);
                for (int latency : latencies) {
                    x.latency(latency);
                }
                x.stall(pattern);
                Due.is(what, outcome(x, given, limit), outcome(Due.made(TEXT), given, limit));
            }
        }
    }

    private static void rows() {
        Due.sentence("The k-th ACCESS of a RUN (from 0 on) is answered after a LATENCY: that in row k modulo how many rows are told");
        same("the least", new int[] {1}, 0);
        same("the greatest", new int[] {64}, 0);
        same("both", new int[] {1, 64}, 0);
        same("both, the other way round", new int[] {64, 1}, 0);
        int[] full = new int[32];
        for (int i = 0; i < 32; i++) {
            full[i] = i % 2 == 0 ? 64 - i : 1 + i;
        }
        same("32 rows", full, 0);
        Arrays.fill(full, 64);
        same("32 rows of the greatest", full, 0);
        // More ACCESSES than rows, and fewer; and ACCESSES begin at row 0 again with each RUN.
        TokenCircuit x = Due.made("int m[2];int f(int n){while(n){m[0]=m[0]+1;n=n-1;}return m[0];}");
        for (int i = 0; i < 32; i++) {
            x.latency(i + 1);
        }
        Due.result(x, "two ACCESSES", 1, 1);
        Due.result(x, "31 ACCESSES", 16, 15);
        Due.result(x, "33 ACCESSES", 32, 16);
        Due.result(x, "2,001 ACCESSES", 1032, 1000);
        Due.is("reads", x.told(3), 1001);
        Due.is("writes", x.told(4), 1000);
    }

    private static void noRows() {
        Due.sentence("1 without rows");
        TokenCircuit x = Due.made(TEXT);
        x.latency(64);
        x.latency(7);
        Due.is("rows that are free again", x.free(), 2);
        Due.is("as without any", outcome(x, 20, 3000), outcome(Due.made(TEXT), 20, 3000));
    }

    private static void stalls() {
        Due.sentence("In cycle c (from 0 on) the result is not taken if bit c modulo 64 of STALL is 1.");
        for (int bit = 0; bit < 64; bit++) {
            same("one bit, " + bit, new int[] {}, 1L << bit);
            same("all bits but " + bit, new int[] {3}, ~(1L << bit));
        }
        same("no bit", new int[] {}, 0);
        same("all bits", new int[] {}, -1);
        same("every other bit", new int[] {5, 1}, 0x5555555555555555L);
        same("the others", new int[] {5, 1}, 0xAAAAAAAAAAAAAAAAL);
        // The shortest PROGRAM, whose result comes in one of the first cycles.
        for (int bit = 0; bit < 64; bit++) {
            TokenCircuit x = Due.made("int f(){}");
            x.stall(~(1L << bit));
            Due.result(x, "delivered at last", 0);
            Due.is("once", x.told(5), 1);
        }
    }

    private static void always0() {
        Due.sentence("(always 0): 7 tokens that were left in the circuit behind RUNS that ended, 8 RUNS that ended behind the told "
            + "number of cycles, 9 tokens that found no room, 10 ACCESSES that were begun ahead of an earlier one's answer");
        String[] bodies = {"", "return m[n]+m[m[n]]*-m[1];", "while(1){}", "while(n){n=n-1;m[n]=m[m[n]+n]+1;if(n%3)continue;if(n==7)break;}",
            "if(n)return m[0]&&m[1]||m[2];else return 1;", "m[m[m[0]]]=m[m[m[1]]];", "return " + "(n+".repeat(14) + "1" + ")".repeat(14) + ";",
            "return " + "m[n+".repeat(14) + "1" + "]".repeat(14) + ";", "while(1){return 1;}", "n=1" + "+m[n]".repeat(130) + ";"};
        for (String body : bodies) {
            TokenCircuit x = Due.made("int m[9];int f(int n){" + body + "}");
            for (int i = 0; i < 24; i++) {
                x.give(0, i);
                x.latency(1 + i * 37 % 64);
                x.stall(~(1L << i));
                x.run(i % 3 == 0 ? 1 + i : 3000);
                for (int what = 7; what <= 10; what++) {
                    Due.is("count(" + what + ") of " + body, x.count(what), 0);
                }
            }
        }
    }
}
