/** What comes out is what the text means: many PROGRAMS, worked by the circuit and by the Oracle. */
public final class MeaningFuzzTest {
    private MeaningFuzzTest() {
    }

    public static void main(String[] args) {
        int sound = 0;
        int ended = 0;
        for (int seed = 0; seed < 6000; seed++) {
            Scribbler scribbler = new Scribbler(seed);
            String text = scribbler.program(1 + scribbler.below(14));
            Oracle oracle = new Oracle(text);
            TokenCircuit x = new TokenCircuit();
            if (text.length() > 2000) {
                continue;
            }
            Due.is("build of " + seed + ": " + text, Due.build(x, text), oracle.faultKind == 0 ? 0 : -1);
            Due.is("kind " + seed + ": " + text, x.fault(0), oracle.faultKind);
            Due.is("place " + seed + ": " + text, x.fault(1), oracle.faultPlace);
            if (oracle.faultKind == 0) {
                sound++;
                oracle.prepare();
                counts(x, oracle, seed);
                for (int i = 0; i < 8; i++) {
                    ended += once(x, oracle, scribbler, "program " + seed + " run " + i + ": " + text);
                }
            }
        }
        System.out.println(sound + " programs, " + ended + " runs that ended");
        Due.holds("most programs are sound", sound > 2000);
        Due.holds("many runs end", ended > 8000);
        Due.end();
    }

    private static void counts(TokenCircuit x, Oracle oracle, int seed) {
        Due.is("arrays of " + seed, x.count(2), oracle.sizes.size());
        Due.is("parameters of " + seed, x.count(3), oracle.parameters);
        Due.is("variables of " + seed, x.count(4), oracle.variables);
        Due.is("branchings of " + seed, x.count(5), oracle.branchings);
        for (int a = 0; a < oracle.sizes.size(); a++) {
            Due.is("size " + a + " of " + seed, x.size(a), oracle.sizes.get(a));
        }
    }

    private static int once(TokenCircuit x, Oracle oracle, Scribbler scribbler, String what) {
        for (int i = 0; i < oracle.parameters; i++) {
            int v = scribbler.anyInt();
            Due.is("give " + what, x.give(i, v), oracle.given[i]);
            oracle.given[i] = v;
        }
        int a = scribbler.below(oracle.sizes.size());
        int i = scribbler.below(oracle.sizes.get(a));
        int v = scribbler.anyInt();
        Due.is("poke " + what, x.poke(a, i, v), oracle.cells[a][i]);
        oracle.cells[a][i] = v;
        if (scribbler.below(9) == 0) {
            x.free();
        } else {
            x.latency(1 + scribbler.below(64));
        }
        x.stall(scribbler.pattern());
        int limit = scribbler.below(3) == 0 ? 1 + scribbler.below(20) : 1 + scribbler.below(3000);
        oracle.run(limit);
        Due.is("run " + limit + " of " + what, x.run(limit), oracle.answer);
        compare(x, oracle, scribbler, what);
        return oracle.answer == 0 ? 1 : 0;
    }

    /** Looks at some writes and some cells: no object may be called more than 512 times. */
    private static void compare(TokenCircuit x, Oracle oracle, Scribbler scribbler, String what) {
        Due.is("answer of " + what, x.told(0), oracle.answer);
        Due.is("result of " + what, x.told(1), oracle.result);
        Due.is("steps of " + what, x.told(2), oracle.steps);
        Due.is("reads of " + what, x.told(3), oracle.reads);
        Due.is("writes of " + what, x.told(4), oracle.writes.size());
        Due.is("delivered of " + what, x.told(5), oracle.answer == 0 ? 1 : 0);
        int kept = Math.min(200, oracle.writes.size());
        for (int k = 0; k < 4 && kept > 0; k++) {
            int i = k == 0 ? kept - 1 : scribbler.below(kept);
            for (int part = 0; part < 3; part++) {
                Due.is("write " + i + " of " + what, x.write(i, part), oracle.writes.get(i)[part]);
            }
        }
        Due.none("write " + kept + " of " + what, () -> x.write(kept, 0));
        for (int k = 0; k < 16; k++) {
            // Where the RUN wrote, or anywhere.
            boolean written = k % 2 == 0 && oracle.writes.size() > 0;
            int[] write = written ? oracle.writes.get(scribbler.below(oracle.writes.size())) : null;
            int a = written ? write[0] : scribbler.below(oracle.cells.length);
            int i = written ? write[1] : scribbler.below(oracle.cells[a].length);
            Due.is("cell " + a + " " + i + " of " + what, x.cell(a, i), oracle.cells[a][i]);
        }
        for (int i = 7; i <= 10; i++) {
            Due.is("count " + i + " of " + what, x.count(i), 0);
        }
    }
}
