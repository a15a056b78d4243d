/** Promises 8, 9 and 10: latency, free and stall. */
public final class LatencyTest {
    private LatencyTest() {
    }

    public static void main(String[] args) {
        rows();
        stalls();
        changeNoResult();
        Due.end();
    }

    private static void rows() {
        TokenCircuit x = new TokenCircuit();
        for (int n : new int[] {0, -1, 65, Integer.MIN_VALUE, Integer.MAX_VALUE}) {
            Due.is("latency(" + n + ")", x.latency(n), -1);
            Due.is("rows", x.count(6), 0);
        }
        Due.is("latency(1)", x.latency(1), 1);
        Due.is("latency(64)", x.latency(64), 2);
        for (int i = 3; i <= 32; i++) {
            Due.is("latency number " + i, x.latency(i), i);
            Due.is("rows", x.count(6), i);
        }
        Due.is("latency number 33", x.latency(1), -1);
        Due.is("rows", x.count(6), 32);
        Due.is("free()", x.free(), 32);
        Due.is("rows behind free()", x.count(6), 0);
        Due.is("free() again", x.free(), 0);
        Due.is("latency(2)", x.latency(2), 1);
        Due.is("free()", x.free(), 1);
    }

    private static void stalls() {
        TokenCircuit x = new TokenCircuit();
        Due.is("stall(5)", x.stall(5), 0);
        Due.is("stall(-1)", x.stall(-1), 5);
        Due.is("stall(-2)", x.stall(-2), 0);
        Due.is("stall(least)", x.stall(Long.MIN_VALUE), -2);
        Due.is("stall(greatest)", x.stall(Long.MAX_VALUE), Long.MIN_VALUE);
        Due.is("stall(0)", x.stall(0), Long.MAX_VALUE);
        Due.is("stall(0xFFFFFFFF)", x.stall(0xFFFFFFFFL), 0);
        Due.is("stall(1 << 32)", x.stall(1L << 32), 0xFFFFFFFFL);
        Due.is("stall(0)", x.stall(0), 1L << 32);
    }

    private static void changeNoResult() {
        String text = "int m[7];int f(int n){int i=0;int s=0;while(i<n){m[i*3]=m[i]+i;s=s+m[i+1];i=i+1;}return s;}";
        TokenCircuit plain = Due.made(text);
        plain.give(0, 20);
        plain.run(3000);
        int[] told = new int[6];
        for (int what = 0; what <= 5; what++) {
            told[what] = plain.told(what);
        }
        int[] cells = new int[7];
        for (int i = 0; i < 7; i++) {
            cells[i] = plain.cell(0, i);
        }
        long[] patterns = {0, 1, -2, Long.MAX_VALUE, Long.MIN_VALUE, 0x5555555555555555L, -1, 0xFFFFFFFFL};
        for (int most = 0; most <= 32; most += 4) {
            for (long pattern : patterns) {
                TokenCircuit x = Due.made(text);
                for (int i = 0; i < most; i++) {
                    x.latency(1 + (i * 29 + most) % 64);
                }
                x.stall(pattern);
                x.give(0, 20);
                Due.is("run", x.run(3000), 0);
                for (int what = 0; what <= 5; what++) {
                    Due.is("told(" + what + ")", x.told(what), told[what]);
                }
                for (int i = 0; i < 7; i++) {
                    Due.is("cell " + i, x.cell(0, i), cells[i]);
                }
                for (int what = 7; what <= 10; what++) {
                    Due.is("count(" + what + ")", x.count(what), 0);
                }
            }
        }
    }
}
