/** Promise 2: feed. */
public final class FeedTest {
    private FeedTest() {
    }

    public static void main(String[] args) {
        eachByteHasItsPlace();
        allValuesOfBytes();
        room();
        behindWhatIsThere();
        Due.end();
    }

    /** A byte that is no token among blanks: the place of the FAULT tells where it came to stand. */
    private static void eachByteHasItsPlace() {
        for (int i = 0; i < 20; i++) {
            int[] words = new int[5];
            for (int k = 0; k < 20; k++) {
                words[k / 4] = words[k / 4] << 8 | (k == i ? '#' : ' ');
            }
            TokenCircuit x = new TokenCircuit();
            Due.is("feed with # at " + i, x.feed(words[0], words[1], words[2], words[3], words[4]), 20);
            Due.is("build of # at " + i, x.build(20), -1);
            Due.is("place of # at " + i, x.fault(1), i);
        }
    }

    private static void allValuesOfBytes() {
        for (int value = 0; value < 256; value++) {
            TokenCircuit x = new TokenCircuit();
            int blanks = 0x20202020;
            Due.is("feed of byte " + value, x.feed(value << 24 | 0x202020, blanks, blanks, blanks, blanks), 20);
            x.build(20);
            boolean blank = value == 10 || value == 32;
            Due.is("fault of byte " + value, x.fault(0), 1);
            Due.is("place of byte " + value, x.fault(1), blank ? 20 : 0);
        }
    }

    private static void room() {
        TokenCircuit x = new TokenCircuit();
        String text = "int f(){return 7;}";
        Due.feed(x, text + " ".repeat(2));
        for (int i = 2; i <= 100; i++) {
            Due.is("feed number " + i, x.feed(0x20202020, 0x20202020, 0x20202020, 0x20202020, 0x20202020), 20 * i);
        }
        Due.is("feed number 101", x.feed(1, 2, 3, 4, 5), -1);
        Due.is("bytes behind the feed that was refused", x.count(0), 2000);
        Due.is("build(2000)", x.build(2000), 0);
        Due.is("bytes behind build", x.count(0), 0);
        Due.result(x, "a text of 2000 bytes", 7);
        Due.is("feed behind build", x.feed(0, 0, 0, 0, 0), 20);
    }

    private static void behindWhatIsThere() {
        TokenCircuit x = new TokenCircuit();
        Due.feed(x, "int f(int a,int b){r");
        Due.is("count(0)", x.count(0), 20);
        Due.feed(x, "eturn a*b+1;}");
        Due.is("count(0)", x.count(0), 40);
        Due.is("build of both", x.build(40), 0);
        Due.result(x, "a*b+1", 43, 6, 7);
    }
}
