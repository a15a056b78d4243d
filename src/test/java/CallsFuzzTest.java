import java.util.ArrayList;
import java.util.List;

/** Long runs of any calls with any arguments, each answer compared with that of a plain model. */
public final class CallsFuzzTest {
    private static final int[] EDGES = {0, 1, -1, 2, 3, 4, 5, 6, 7, 8, 10, 11, 16, 20, 31, 32, 33, 40, 63, 64, 65, 199, 200,
        255, 256, 257, 2000, 2001, 2999, 3000, 3001, Integer.MAX_VALUE, Integer.MIN_VALUE};

    /** A text of 800 bytes comes in 40 feeds, with a build ahead of it and one behind. */
    private static final int MOST_AT_ONCE = 43;

    private final Scribbler scribbler;
    private final TokenCircuit x = new TokenCircuit();
    private final StringBuilder tape = new StringBuilder();
    private final List<Integer> rows = new ArrayList<>();
    private Oracle program;
    private int faultKind = 0;
    private int faultPlace = -1;
    private long stall = 0;
    private int calls = 0;
    private String what;

    private CallsFuzzTest(long seed) {
        scribbler = new Scribbler(seed);
    }

    public static void main(String[] args) {
        Due.deep(CallsFuzzTest::all);
        Due.end();
    }

    private static void all() {
        for (int seed = 0; seed < 2500; seed++) {
            CallsFuzzTest test = new CallsFuzzTest(seed);
            for (int i = 0; i < 512 && test.calls < 512 - MOST_AT_ONCE; i++) {
                test.what = "run " + seed + " call " + i;
                test.calls++;
                test.call();
            }
        }
    }

    private int any() {
        return scribbler.below(4) == 0 ? EDGES[scribbler.below(EDGES.length)] : scribbler.below(9) - 1;
    }

    private void call() {
        switch (scribbler.below(24)) {
            case 0:
                feed();
                break;
            case 1:
            case 2:
                build();
                break;
            case 3:
                int which = any();
                Due.is(what + " fault", x.fault(which), which == 0 ? faultKind : which == 1 ? faultPlace : -1);
                break;
            case 4:
            case 5:
                give(any(), scribbler.anyInt());
                break;
            case 6:
            case 7:
                poke(any(), any(), scribbler.anyInt());
                break;
            case 8:
                cell(any(), any());
                break;
            case 9:
                latency(any());
                break;
            case 10:
                Due.is(what + " free", x.free(), rows.size());
                rows.clear();
                break;
            case 11:
                long pattern = scribbler.below(4) == 0 ? -1 : scribbler.pattern();
                Due.is(what + " stall", x.stall(pattern), stall);
                stall = pattern == -1 ? 0 : pattern;
                break;
            case 12:
            case 13:
            case 14:
                run(scribbler.below(3) == 0 ? any() : 1 + scribbler.below(3000));
                break;
            case 15:
            case 16:
                told(any());
                break;
            case 17:
            case 18:
                write(any(), any());
                break;
            case 19:
            case 20:
                count(any());
                break;
            default:
                int a = any();
                boolean isThere = program != null && a >= 0 && a < program.sizes.size();
                Due.is(what + " size", x.size(a), isThere ? program.sizes.get(a) : -1);
                break;
        }
    }

    private void feed() {
        int[] words = new int[5];
        StringBuilder bytes = new StringBuilder();
        for (int i = 0; i < 20; i++) {
            int one = scribbler.below(2) == 0 ? ' ' : scribbler.below(256);
            bytes.append((char) one);
            words[i / 4] = words[i / 4] << 8 | one;
        }
        boolean room = tape.length() + 20 <= 2000;
        tape.append(room ? bytes : "");
        Due.is(what + " feed", x.feed(words[0], words[1], words[2], words[3], words[4]), room ? tape.length() : -1);
    }

    private void build() {
        int n = any();
        if (scribbler.below(3) > 0) {
            String text = scribbler.below(5) == 0 ? scribbler.wild() : scribbler.program(1 + scribbler.below(6));
            text = scribbler.below(4) == 0 ? scribbler.spoilt(text) : text;
            if (text.length() > 800) {
                return;
            }
            if (tape.length() > 0) {
                built(tape.length());
            }
            Due.feed(x, text);
            calls += 2 + (text.length() + 19) / 20;
            tape.append(text).append(" ".repeat((20 - text.length() % 20) % 20));
            n = text.length();
        }
        built(n);
    }

    private void built(int n) {
        if (n < 0 || n > tape.length()) {
            Due.is(what + " build", x.build(n), -2);
            return;
        }
        Oracle oracle = new Oracle(tape.substring(0, n));
        tape.setLength(0);
        faultKind = oracle.faultKind;
        faultPlace = oracle.faultPlace;
        Due.is(what + " build", x.build(n), faultKind == 0 ? 0 : -1);
        if (faultKind == 0) {
            program = oracle;
            program.prepare();
        }
    }

    private void give(int i, int v) {
        if (program == null || i < 0 || i >= program.parameters) {
            Due.none(what + " give", () -> x.give(i, v));
            return;
        }
        Due.is(what + " give", x.give(i, v), program.given[i]);
        program.given[i] = v;
    }

    private boolean isCell(int a, int i) {
        return program != null && a >= 0 && a < program.cells.length && i >= 0 && i < program.cells[a].length;
    }

    private void poke(int a, int i, int v) {
        if (!isCell(a, i)) {
            Due.none(what + " poke", () -> x.poke(a, i, v));
            return;
        }
        Due.is(what + " poke", x.poke(a, i, v), program.cells[a][i]);
        program.cells[a][i] = v;
    }

    private void cell(int a, int i) {
        if (!isCell(a, i)) {
            Due.none(what + " cell", () -> x.cell(a, i));
            return;
        }
        Due.is(what + " cell", x.cell(a, i), program.cells[a][i]);
    }

    private void latency(int n) {
        boolean good = n >= 1 && n <= 64 && rows.size() < 32;
        if (good) {
            rows.add(n);
        }
        Due.is(what + " latency", x.latency(n), good ? rows.size() : -1);
    }

    private void run(int limit) {
        boolean good = program != null && limit >= 1 && limit <= 3000;
        if (good) {
            program.run(limit);
        }
        Due.is(what + " run", x.run(limit), good ? program.answer : -1);
    }

    private void told(int which) {
        int[] all = program == null ? new int[] {-1, 0, 0, 0, 0, 0} : new int[] {program.answer, program.result,
            program.steps, program.reads, program.writes.size(), program.answer == 0 ? 1 : 0};
        Due.is(what + " told", x.told(which), which >= 0 && which < 6 ? all[which] : -1);
    }

    private void write(int i, int which) {
        if (program == null || i < 0 || i >= program.writes.size() || i >= 200) {
            Due.none(what + " write", () -> x.write(i, which));
            return;
        }
        Due.is(what + " write", x.write(i, which), which >= 0 && which < 3 ? program.writes.get(i)[which] : -1);
    }

    private void count(int which) {
        int[] all = {tape.length(), program == null ? 0 : 1, program == null ? 0 : program.sizes.size(),
            program == null ? 0 : program.parameters, program == null ? 0 : program.variables,
            program == null ? 0 : program.branchings, rows.size(), 0, 0, 0, 0};
        Due.is(what + " count", x.count(which), which >= 0 && which < 11 ? all[which] : -1);
    }
}
