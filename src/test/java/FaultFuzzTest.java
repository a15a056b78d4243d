/** FAULTS of many texts that are amiss somewhere, against the Oracle and the bare grammar. */
public final class FaultFuzzTest {
    private static final int[] FOUND = new int[8];

    private FaultFuzzTest() {
    }

    public static void main(String[] args) {
        Due.deep(FaultFuzzTest::all);
        Due.end();
    }

    private static void all() {
        for (int seed = 0; seed < 12000; seed++) {
            Scribbler scribbler = new Scribbler(seed);
            String text = scribbler.below(2) == 0 ? scribbler.wild() : scribbler.program(1 + scribbler.below(12));
            one(text);
            for (int i = 0; i < 4; i++) {
                one(scribbler.spoilt(text));
            }
        }
        StringBuilder line = new StringBuilder("found of each kind:");
        for (int kind = 0; kind < 8; kind++) {
            line.append(' ').append(FOUND[kind]);
            Due.holds("kind " + kind + " is found often", FOUND[kind] > 50);
        }
        System.out.println(line);
    }

    private static void one(String text) {
        if (text.length() > 2000) {
            return;
        }
        Oracle oracle = new Oracle(text);
        if (oracle.faultKind != 7) {
            int odd = Viable.firstOdd(oracle.kinds());
            Due.is("the grammar of " + text, odd < 0 ? -1 : oracle.placeOf(odd), oracle.faultKind == 1 ? oracle.faultPlace : -1);
        }
        FOUND[oracle.faultKind]++;
        Due.fault(text, oracle.faultKind, oracle.faultPlace);
    }
}
