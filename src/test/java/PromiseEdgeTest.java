/** Promises 1 to 15, the edges: the last that is taken and the first that is refused, what is empty and what is full. */
public final class PromiseEdgeTest {
    private static final int LEAST = Integer.MIN_VALUE;
    private static final int MOST = Integer.MAX_VALUE;
    private static final int BLANKS = 0x20202020;

    private PromiseEdgeTest() {
    }

    public static void main(String[] args) {
        callsOfAnObject();
        newObject();
        ownOfEach();
        feedHighestFirst();
        feedFull();
        buildFirstBytes();
        buildEmptiesTheTape();
        buildBeginsAnew();
        buildBehindBuild();
        buildBehindFault();
        buildNotSoMany();
        faultOfLatest();
        give();
        poke();
        cell();
        latency();
        free();
        stall();
        runAnswers();
        runRefused();
        toldOfLatest();
        toldAheadOfAny();
        writes();
        count();
        size();
        Due.end();
    }

    private static void callsOfAnObject() {
        Due.sentence("An object is used for at most 512 calls after it has been made");
        TokenCircuit x = new TokenCircuit();
        int calls = 0;
        // Five calls a time: two of feed, build, run, told.
        for (int i = 0; i < 102; i++) {
            x.feed(0x696E7420, 0x6628297B, 0x72657475, 0x726E2020, 0x30303030 + i / 100 * 65536 + i / 10 % 10 * 256 + i % 10);
            x.feed(0x3B7D2020, BLANKS, BLANKS, BLANKS, BLANKS);
            Due.is("build " + i, x.build(22), 0);
            Due.is("run " + i, x.run(1), 0);
            Due.is("result " + i, x.told(1), i);
            calls += 5;
        }
        Due.is("call 511", x.run(3000), 0);
        Due.is("call 512", x.told(1), 101);
        Due.is("calls", calls + 2, 512);
        // The dearest calls.
        TokenCircuit dear = Due.made("int m[256];int f(int a){while(1){" + "m[a]=a;".repeat(100) + "a=a+1" + "+m[a]".repeat(60) + ";}}");
        for (int i = 0; i < 32; i++) {
            dear.latency(64);
        }
        for (int i = 0; i < 300; i++) {
            Due.is("a dear RUN", dear.run(3000), 1);
        }
    }

    private static void newObject() {
        Due.sentence("Promise 1: An empty tape, no PROGRAM, no rows of LATENCIES, STALL 0; nothing was run.");
        Due.is("an empty tape", new TokenCircuit().count(0), 0);
        Due.is("an empty tape", new TokenCircuit().build(1), -2);
        Due.is("an empty tape", new TokenCircuit().feed(0, 0, 0, 0, 0), 20);
        TokenCircuit x = new TokenCircuit();
        Due.is("an empty tape", x.build(0), -1);
        Due.is("whose length is 0", x.fault(1), 0);
        Due.is("no PROGRAM", new TokenCircuit().count(1), 0);
        Due.is("no PROGRAM", new TokenCircuit().run(1), -1);
        for (int what = 2; what <= 5; what++) {
            Due.is("no PROGRAM", new TokenCircuit().count(what), 0);
        }
        Due.is("no ARRAY", new TokenCircuit().size(0), -1);
        Due.none("no PARAMETER", () -> new TokenCircuit().give(0, 0));
        Due.none("no cell", () -> new TokenCircuit().cell(0, 0));
        Due.none("no cell", () -> new TokenCircuit().poke(0, 0, 0));
        Due.is("no rows", new TokenCircuit().count(6), 0);
        Due.is("no rows", new TokenCircuit().free(), 0);
        Due.is("no rows", new TokenCircuit().latency(1), 1);
        Due.is("STALL 0", new TokenCircuit().stall(5), 0);
        Due.is("nothing was run", new TokenCircuit().told(0), -1);
        for (int what = 1; what <= 5; what++) {
            Due.is("nothing was run", new TokenCircuit().told(what), 0);
        }
        Due.none("nothing was written", () -> new TokenCircuit().write(0, 0));
        Due.is("no build", new TokenCircuit().fault(0), 0);
        Due.is("no build", new TokenCircuit().fault(1), -1);
        for (int what = 7; what <= 10; what++) {
            Due.is("always 0", new TokenCircuit().count(what), 0);
        }
        Due.sentence("NONE = -1: There is none.");
        Due.is("NONE", TokenCircuit.NONE, -1);
    }

    private static void ownOfEach() {
        Due.sentence("All memory is the maker's own.");
        TokenCircuit x = Due.made("int m[3];int f(int a){m[0]=a;return m[1];}");
        TokenCircuit y = new TokenCircuit();
        x.give(0, 5);
        x.poke(0, 1, 6);
        x.latency(3);
        x.stall(7);
        x.run(9);
        Due.feed(x, "int f(){return x;}");
        for (int what = 0; what <= 10; what++) {
            Due.is("count(" + what + ") of the other", y.count(what), 0);
        }
        Due.build(y, "int m[3];int f(int a){return m[0]+m[1]+a;}");
        Due.result(y, "the other's cells and PARAMETERS", 0);
        Due.is("the other's STALL", y.stall(0), 0);
        Due.is("result of the first", x.told(1), 6);
        Due.is("cell of the first", x.cell(0, 0), 5);
        Due.is("tape of the first", x.build(18), -1);
        Due.is("FAULT of the first", x.fault(0), 3);
        Due.is("FAULT of the other", y.fault(0), 0);
    }

    private static void feedHighestFirst() {
        Due.sentence("Promise 2: Twenty bytes come behind those on the tape, of each number the highest first: how many it has");
        TokenCircuit x = new TokenCircuit();
        // "int f(){return 1+2;}" as five numbers.
        Due.is("feed", x.feed(0x696E7420, 0x6628297B, 0x72657475, 0x726E2031, 0x2B323B7D), 20);
        Due.is("build", x.build(20), 0);
        Due.result(x, "1+2", 3);
        for (int i = 0; i < 20; i++) {
            for (int sign : new int[] {'#', 0, 127, 128, 255}) {
                int[] words = {BLANKS, BLANKS, BLANKS, BLANKS, BLANKS};
                int shift = 24 - i % 4 * 8;
                words[i / 4] = BLANKS & ~(255 << shift) | sign << shift;
                TokenCircuit y = new TokenCircuit();
                y.feed(BLANKS, BLANKS, BLANKS, BLANKS, BLANKS);
                Due.is("feed", y.feed(words[0], words[1], words[2], words[3], words[4]), 40);
                Due.is("build", y.build(40), -1);
                Due.is("place of byte " + i, y.fault(1), 20 + i);
            }
        }
    }

    private static void feedFull() {
        Due.sentence("Promise 2: NONE, and nothing is done, if there would be more than 2,000.");
        TokenCircuit x = new TokenCircuit();
        Due.feed(x, "int f(){return 7;}");
        for (int i = 2; i <= 100; i++) {
            Due.is("feed " + i, x.feed(BLANKS, BLANKS, BLANKS, BLANKS, BLANKS), 20 * i);
        }
        for (int i = 0; i < 3; i++) {
            Due.is("feed of a full tape", x.feed(0, 0, 0, 0, 0), -1);
            Due.is("bytes", x.count(0), 2000);
        }
        Due.is("build of all", x.build(2000), 0);
        Due.result(x, "what was there", 7);
        for (int i = 1; i <= 100; i++) {
            Due.is("feed " + i + " behind build", x.feed(BLANKS, BLANKS, BLANKS, BLANKS, BLANKS), 20 * i);
        }
        Due.is("full again", x.feed(0, 0, 0, 0, 0), -1);
        Due.is("a FAULT empties it too", x.build(1999), -1);
        Due.is("its place", x.fault(1), 1999);
        Due.is("room again", x.feed(0, 0, 0, 0, 0), 20);
    }

    private static void buildFirstBytes() {
        Due.sentence("Promise 3: The first n bytes of the tape .. are the text");
        String text = "int f(){return 12;}#";
        for (int n = 0; n <= 20; n++) {
            TokenCircuit x = new TokenCircuit();
            Due.feed(x, text);
            Due.is("build(" + n + ")", x.build(n), n == 19 ? 0 : -1);
            Due.is("kind", x.fault(0), n == 19 ? 0 : 1);
            // A part of a word is a NAME, which goes on where STATEMENTS stand, and nowhere else here.
            int place = n == 19 ? -1 : n == 1 || n == 2 ? 0 : n == 20 ? 19 : n;
            Due.is("place", x.fault(1), place);
        }
        // A NUMBER is cut by n as well.
        TokenCircuit x = new TokenCircuit();
        Due.feed(x, "int f(){}12345678901");
        Due.is("build(9)", x.build(9), 0);
    }

    private static void buildEmptiesTheTape() {
        Due.sentence("Promise 3: the tape, which is empty then");
        TokenCircuit x = new TokenCircuit();
        Due.feed(x, "int f(){}           int g(){}");
        Due.is("bytes", x.count(0), 40);
        Due.is("build of a part", x.build(9), 0);
        Due.is("bytes", x.count(0), 0);
        Due.is("nothing is left", x.build(1), -2);
        Due.feed(x, "int f(){return x;}");
        Due.is("a FAULT", x.build(18), -1);
        Due.is("bytes", x.count(0), 0);
        Due.feed(x, "int f(){}");
        Due.is("build of nothing", x.build(0), -1);
        Due.is("bytes", x.count(0), 0);
        Due.feed(x, "int f(){return 4;}");
        Due.is("nothing stays ahead of it", x.build(18), 0);
        Due.result(x, "it alone", 4);
    }

    private static void buildBeginsAnew() {
        Due.sentence("Promise 3: 0, and it is the PROGRAM (all cells and PARAMETERS are 0, nothing was run)");
        String text = "int m[256];int f(int a,int b,int c,int d){m[0]=a;m[255]=d;return a+b+c+d;}";
        TokenCircuit x = Due.made(text);
        for (int again = 0; again < 2; again++) {
            for (int i = 0; i < 4; i++) {
                Due.is("PARAMETER " + i, x.give(i, i + 5), 0);
            }
            for (int i : new int[] {0, 1, 128, 254, 255}) {
                Due.is("cell " + i, x.poke(0, i, 3), 0);
            }
            Due.is("run", x.run(1), 0);
            Due.is("result", x.told(1), 26);
            Due.is("write", x.write(1, 2), 8);
            Due.is("build of the same", Due.build(x, text), 0);
            Due.is("told(0)", x.told(0), -1);
            for (int what = 1; what <= 5; what++) {
                Due.is("told(" + what + ")", x.told(what), 0);
            }
            Due.none("no write", () -> x.write(0, 0));
        }
    }

    /** Texts that fill all there is, one behind the other: nothing of one stays for the next. */
    private static void buildBehindBuild() {
        Due.sentence("Promise 3: 0, and it is the PROGRAM");
        String arrays = "int a[1];int b[1];int c[1];int d[1];int e[1];int g[1];int h[1];int i[9];int f(){i[8]=4;return i[8];}";
        String variables = "int f(int i,int b,int c,int d){" + "{int a=1;}".repeat(12) + "return i+b+c+d;}";
        String branchings = "int i(int a){" + "if(a)a=a-1;else a=a+2;".repeat(40) + "return a;}";
        String whiles = "int i(int a){" + "while(a>9)a=a-1;".repeat(40) + "return a;}";
        String worked = "int a(int f){return f" + "+1".repeat(199) + ";}";
        String open = "int i(int f){" + "{".repeat(14) + "f=(f);" + "}".repeat(14) + "return f;}";
        String[] texts = {arrays, variables, branchings, whiles, worked, open};
        int[] results = {4, 0, 2, 0, 199, 0};
        for (int first = 0; first < texts.length; first++) {
            for (int second = 0; second < texts.length; second++) {
                TokenCircuit x = new TokenCircuit();
                // Four times: however many rooms there are for PROGRAMS, each is used again.
                for (int again = 0; again < 4; again++) {
                    Due.is("the first", Due.build(x, texts[first]), 0);
                    Due.is("its run", x.run(3000), 0);
                    Due.is("its result", x.told(1), results[first]);
                    Due.is("the second", Due.build(x, texts[second]), 0);
                    Due.is("its run", x.run(3000), 0);
                    Due.is("its result", x.told(1), results[second]);
                }
            }
        }
    }

    /** A text that is cut anywhere, and then a whole one: nothing of the first stays. */
    private static void buildBehindFault() {
        Due.sentence("Promise 3: NONE with a FAULT (the PROGRAM of before stays");
        String cut = "int a[9];int g(int b){int c=1*(2+a[3<<(4-!b)]);while(b){if(c){int d=1;break;}else a[b*(c+1)]=-(d);}return ~(c|a[2]);}";
        String good = "int f(int a,int g){int c=a*(g+1);int d=0;while(d<3){d=d+1;if(d==2)continue;c=c-d;}return c;}";
        String program = "int m[2];int f(int x){m[1]=x;return m[1]+m[0]*10;}";
        for (int n = 0; n < cut.length(); n++) {
            TokenCircuit x = Due.made(program);
            x.give(0, 5);
            x.poke(0, 0, 2);
            for (int again = 0; again < 2; again++) {
                Due.is("build of a text that is cut", Due.build(x, cut.substring(0, n)), -1);
                Due.is("the PROGRAM of before", x.run(1), 0);
                Due.is("its result", x.told(1), 25);
            }
            Due.is("another cut", Due.build(x, cut), -1);
            Due.is("its kind", x.fault(0), 3);
            Due.is("build of a whole one", Due.build(x, good), 0);
            Due.result(x, "its result", 5 * 7 - 4, 5, 6);
        }
    }

    private static void buildNotSoMany() {
        Due.sentence("Promise 3: -2, and nothing is done, if there are not so many, or n is below 0.");
        TokenCircuit x = new TokenCircuit();
        Due.is("build(1) of nothing", x.build(1), -2);
        Due.is("build(-1) of nothing", x.build(-1), -2);
        Due.is("build(0) of nothing is a text", x.build(0), -1);
        Due.feed(x, "int f(){return 7;}");
        for (int n : new int[] {21, 40, 2000, 2001, MOST, -1, -20, LEAST}) {
            Due.is("build(" + n + ") of 20", x.build(n), -2);
            Due.is("bytes", x.count(0), 20);
            Due.is("the FAULT of before", x.fault(0), 1);
        }
        Due.is("build(20) of 20", x.build(20), 0);
        Due.result(x, "what was there", 7);
        Due.feed(x, "int f(){}" + " ".repeat(1991));
        Due.is("build(2001) of 2,000", x.build(2001), -2);
        Due.is("build(2000) of 2,000", x.build(2000), 0);
    }

    private static void faultOfLatest() {
        Due.sentence("Promise 4: Of the latest build() that gave 0 or NONE: its FAULT's kind (what 0; 0 without), "
            + "its place (1; NONE without). NONE for another what.");
        TokenCircuit x = new TokenCircuit();
        String[] texts = {"", "int a(int a){}", "int f(){x=1;}", "int f(){}", "int f(){f=1;}", "int f(){break;}", "int a[0];int f(){}",
            "int f(){", "int f(){return 1;}", "int f(){" + "{".repeat(16)};
        int[] kinds = {1, 2, 3, 0, 4, 5, 6, 1, 0, 7};
        int[] places = {0, 10, 8, -1, 8, 8, 6, 8, -1, 23};
        for (int i = 0; i < texts.length; i++) {
            Due.is("build of " + texts[i], Due.build(x, texts[i]), kinds[i] == 0 ? 0 : -1);
            for (int again = 0; again < 2; again++) {
                Due.is("kind of " + texts[i], x.fault(0), kinds[i]);
                Due.is("place of " + texts[i], x.fault(1), places[i]);
                for (int what : new int[] {-1, 2, LEAST, MOST}) {
                    Due.is("fault(" + what + ")", x.fault(what), -1);
                }
                Due.is("a build that gives -2", x.build(1), -2);
                x.run(1);
            }
        }
    }

    private static void give() {
        Due.sentence("Promise 5: PARAMETER i is v from now on: what it was. NoSuchElementException: there is none such.");
        String[] heads = {"", "int a", "int a,int b", "int a,int b,int c", "int a,int b,int c,int d"};
        String[] sums = {"0", "a", "a+b*10", "a+b*10+c*100", "a+b*10+c*100+d*1000"};
        int[] wants = {0, 1, 21, 321, 4321};
        for (int n = 0; n <= 4; n++) {
            // A variable beside them is no PARAMETER.
            TokenCircuit x = Due.made("int f(" + heads[n] + "){int e=5;return " + sums[n] + ";}");
            for (int i = 0; i < n; i++) {
                Due.is("give(" + i + ") of " + n, x.give(i, i + 1), 0);
            }
            for (int i : new int[] {-1, n, n + 1, 5, LEAST, MOST}) {
                Due.none("give(" + i + ") of " + n, () -> x.give(i, 1));
            }
            Due.result(x, n + " PARAMETERS", wants[n]);
            Due.is("from now on: each RUN", x.run(3000), 0);
            Due.is("from now on: each RUN", x.told(1), wants[n]);
            for (int i = 0; i < n; i++) {
                Due.is("what it was", x.give(i, LEAST), i + 1);
                Due.is("the least", x.give(i, MOST), LEAST);
                Due.is("the greatest", x.give(i, 0), MOST);
            }
        }
        // What a RUN sets is no gift.
        TokenCircuit x = Due.made("int f(int a){a=a+1;return a;}");
        Due.result(x, "a RUN", 8, 7);
        Due.result(x, "a RUN again", 8);
        Due.is("what it was", x.give(0, 1), 7);
    }

    private static void poke() {
        Due.sentence("Promise 6: Cell i of ARRAY a becomes v: what it was. NoSuchElementException: there is none such.");
        TokenCircuit x = Due.made("int a[1];int b[2];int c[256];int f(){return a[0]+b[1]+c[255];}");
        int[] sizes = {1, 2, 256};
        for (int a = 0; a < 3; a++) {
            int array = a;
            Due.is("the first", x.poke(a, 0, LEAST), 0);
            Due.is("the first", x.poke(a, 0, 4), LEAST);
            Due.is("the last", x.poke(a, sizes[a] - 1, MOST), sizes[a] == 1 ? 4 : 0);
            Due.is("the last", x.poke(a, sizes[a] - 1, a + 1), MOST);
            for (int i : new int[] {-1, sizes[a], sizes[a] + 1, 257, LEAST, MOST}) {
                Due.none("poke(" + a + ", " + i + ")", () -> x.poke(array, i, 9));
            }
        }
        for (int a : new int[] {-1, 3, 8, LEAST, MOST}) {
            for (int i : new int[] {0, 1, -1, LEAST, MOST}) {
                Due.none("poke(" + a + ", " + i + ")", () -> x.poke(a, i, 9));
            }
        }
        Due.result(x, "what was poked, and nothing else", 6);
    }

    private static void cell() {
        Due.sentence("Promise 7: Cell i of ARRAY a. NoSuchElementException likewise.");
        TokenCircuit x = Due.made("int a[1];int b[2];int c[256];int f(){a[0]=1;b[0]=2;b[1]=3;c[0]=4;c[255]=5;}");
        x.run(1);
        int[][] cells = {{0, 0, 1}, {1, 0, 2}, {1, 1, 3}, {2, 0, 4}, {2, 1, 0}, {2, 254, 0}, {2, 255, 5}};
        for (int[] one : cells) {
            Due.is("cell(" + one[0] + ", " + one[1] + ")", x.cell(one[0], one[1]), one[2]);
        }
        int[][] none = {{0, -1}, {0, 1}, {1, -1}, {1, 2}, {2, -1}, {2, 256}, {2, 257}, {3, 0}, {-1, 0}, {8, 0}, {0, LEAST}, {0, MOST},
            {LEAST, 0}, {MOST, 0}, {LEAST, LEAST}, {MOST, MOST}, {-1, -1}, {-1, 256}, {1, 256}, {0, 256}};
        for (int[] one : none) {
            Due.none("cell(" + one[0] + ", " + one[1] + ")", () -> x.cell(one[0], one[1]));
        }
    }

    private static void latency() {
        Due.sentence("Promise 8: One more row of LATENCIES: how many there are. NONE, and nothing is done, if n is not 1 to 64, or there are 32.");
        TokenCircuit x = new TokenCircuit();
        int[] bad = {0, -1, 65, 66, LEAST, MOST};
        int rows = 0;
        for (int n : new int[] {1, 2, 63, 64}) {
            rows++;
            Due.is("latency(" + n + ")", x.latency(n), rows);
            for (int other : bad) {
                Due.is("latency(" + other + ")", x.latency(other), -1);
                Due.is("rows", x.count(6), rows);
            }
        }
        while (rows < 32) {
            rows++;
            Due.is("row " + rows, x.latency(rows), rows);
        }
        for (int n : new int[] {1, 64, 0, 65}) {
            Due.is("a 33rd row of " + n, x.latency(n), -1);
            Due.is("rows", x.count(6), 32);
        }
    }

    private static void free() {
        Due.sentence("Promise 9: There are no rows of LATENCIES any more: how many there were.");
        for (int n : new int[] {0, 1, 31, 32}) {
            TokenCircuit x = new TokenCircuit();
            for (int i = 0; i < n; i++) {
                x.latency(9);
            }
            Due.is("free() of " + n, x.free(), n);
            Due.is("rows", x.count(6), 0);
            Due.is("free() again", x.free(), 0);
            Due.is("the first again", x.latency(64), 1);
            Due.is("rows", x.count(6), 1);
        }
    }

    private static void stall() {
        Due.sentence("Promise 10: STALL is this (0, if all 64 bits are 1: it would hold the result up for ever): what it was.");
        TokenCircuit x = new TokenCircuit();
        long before = 0;
        long[] patterns = {0, 1, -1, -2, Long.MAX_VALUE, Long.MIN_VALUE, -1, 4294967295L, -4294967296L, 1L << 32, 0xFFFFFFFEFFFFFFFFL, -1, -1};
        for (long pattern : patterns) {
            Due.is("stall(" + pattern + ")", x.stall(pattern), before);
            before = pattern == -1 ? 0 : pattern;
        }
        for (int bit = 0; bit < 64; bit++) {
            Due.is("all bits but one", x.stall(~(1L << bit)), before);
            before = ~(1L << bit);
        }
        // It stays over builds and RUNS.
        Due.build(x, "int f(){}");
        x.run(1);
        Due.is("as it was", x.stall(0), before);
    }

    private static void runAnswers() {
        Due.sentence("Promise 11: A RUN of the PROGRAM with cells and PARAMETERS as they are: 0: it ended; 1: UNENDED.");
        TokenCircuit x = Due.made("int m[1];int f(int a){m[0]=m[0]+a;while(m[0]<a*3)m[0]=m[0]+1;return m[0];}");
        x.give(0, 2);
        x.poke(0, 0, 5);
        Due.is("run", x.run(3), 0);
        Due.is("with cells and PARAMETERS as they are", x.told(1), 7);
        Due.is("run", x.run(3), 0);
        Due.is("what the RUN of before left", x.told(1), 9);
        x.give(0, 10);
        Due.is("UNENDED", x.run(3), 1);
        Due.is("cells that it left", x.cell(0, 0), 20);
        Due.is("it begins anew", x.run(3000), 0);
        Due.is("from those", x.told(1), 30);
    }

    private static void runRefused() {
        Due.sentence("Promise 11: NONE, and nothing is done, if there is no PROGRAM, or limit is not 1 to 3000.");
        TokenCircuit x = new TokenCircuit();
        for (int limit : new int[] {1, 2, 2999, 3000, 0, 3001}) {
            Due.is("without a PROGRAM", x.run(limit), -1);
        }
        Due.build(x, "int f(");
        Due.is("behind a FAULT, without a PROGRAM", x.run(1), -1);
        Due.build(x, "int m[1];int f(){m[0]=m[0]+1;return m[0];}");
        int done = 0;
        for (int limit : new int[] {1, 0, 3000, 3001, 2999, -1, 2, LEAST, 1, MOST}) {
            boolean good = limit >= 1 && limit <= 3000;
            done += good ? 1 : 0;
            Due.is("run(" + limit + ")", x.run(limit), good ? 0 : -1);
            Due.is("told(0)", x.told(0), 0);
            Due.is("told(1)", x.told(1), done);
            Due.is("cell", x.cell(0, 0), done);
        }
    }

    private static void told(TokenCircuit x, String what, int... wants) {
        for (int i = 0; i < 6; i++) {
            Due.is(what + " told(" + i + ")", x.told(i), wants[i]);
        }
        for (int other : new int[] {-1, 6, LEAST, MOST}) {
            Due.is(what + " told(" + other + ")", x.told(other), -1);
        }
    }

    private static void toldOfLatest() {
        Due.sentence("Promise 12: Of the latest RUN: 0 what it answered, 1 the result (0 if it did not end), 2 STEPS that were begun, "
            + "3 cells that were read, 4 written, 5 results that were delivered. .. NONE for another what.");
        TokenCircuit x = Due.made("int m[2];int f(int a){m[0]=m[1];if(a)m[1]=m[0]+m[0]+1;return a-1;}");
        x.run(3000);
        told(x, "the first", 0, -1, 2, 1, 1, 1);
        x.give(0, 1);
        x.run(3000);
        told(x, "the second", 0, 0, 3, 3, 2, 1);
        x.give(0, LEAST);
        x.run(3000);
        told(x, "the third", 0, MOST, 3, 3, 2, 1);
        x.run(2);
        told(x, "UNENDED", 1, 0, 2, 3, 2, 0);
        x.run(1);
        told(x, "UNENDED sooner", 1, 0, 1, 1, 1, 0);
        x.run(0);
        told(x, "behind one that was refused", 1, 0, 1, 1, 1, 0);
        x.poke(0, 0, 1);
        x.cell(0, 0);
        told(x, "poke and cell are no ACCESSES", 1, 0, 1, 1, 1, 0);
    }

    private static void toldAheadOfAny() {
        Due.sentence("Promise 12: Ahead of any: NONE, 0, 0, 0, 0, 0.");
        TokenCircuit x = new TokenCircuit();
        told(x, "new", -1, 0, 0, 0, 0, 0);
        x.run(1);
        told(x, "no PROGRAM", -1, 0, 0, 0, 0, 0);
        Due.build(x, "int f(){return 3;}");
        told(x, "built", -1, 0, 0, 0, 0, 0);
        x.run(3001);
        told(x, "refused", -1, 0, 0, 0, 0, 0);
        x.run(1);
        told(x, "run", 0, 3, 1, 0, 0, 1);
        Due.build(x, "int f(){return 3;}");
        told(x, "built anew", -1, 0, 0, 0, 0, 0);
    }

    private static void writes() {
        Due.sentence("Promise 13: Of the i-th write of the latest RUN (from 0 on; the first 200 are kept): 0 its ARRAY, 1 its cell, "
            + "2 what came there. NONE for another what. NoSuchElementException: there is none such.");
        String text = "int p[3];int q[256];int f(int n){int i=0;while(i<n){if(i%2)q[-i]=i-5;else p[i]=i*i;i=i+1;}}";
        for (int n : new int[] {0, 1, 2, 199, 200, 201, 300}) {
            TokenCircuit x = Due.made(text);
            x.give(0, n);
            Due.none("ahead of any RUN", () -> x.write(0, 0));
            Due.is("run", x.run(3000), 0);
            Due.is("all are counted", x.told(4), n);
            int kept = Math.min(n, 200);
            for (int i = Math.max(0, kept - 40); i < kept; i++) {
                Due.is("ARRAY", x.write(i, 0), i % 2);
                Due.is("cell", x.write(i, 1), i % 2 == 0 ? i % 3 : 256 - i);
                Due.is("what came there", x.write(i, 2), i % 2 == 0 ? i * i : i - 5);
                for (int what : new int[] {-1, 3, LEAST, MOST}) {
                    Due.is("write(" + i + ", " + what + ")", x.write(i, what), -1);
                }
            }
            for (int i : new int[] {-1, kept, kept + 1, 200, 201, LEAST, MOST}) {
                for (int what : new int[] {0, 1, 2}) {
                    Due.none("write(" + i + ", " + what + ") of " + n, () -> x.write(i, what));
                }
            }
            x.give(0, 0);
            x.run(3000);
            Due.none("none of the RUN of before", () -> x.write(0, 0));
        }
        // A write that changes nothing is one as well; of one that is UNENDED those that were done.
        TokenCircuit same = Due.made("int m[2];int f(){m[1]=0;m[1]=0;while(1)m[0]=m[0];}");
        same.run(5);
        Due.is("writes", same.told(4), 4);
        Due.is("the last", same.write(3, 1), 0);
        Due.none("no more", () -> same.write(4, 0));
    }

    private static void count() {
        Due.sentence("Promise 14: 0 bytes of the tape, 1 whether there is a PROGRAM (1, 0), 2 its ARRAYS, 3 PARAMETERS, 4 all variables that are "
            + "told, PARAMETERS among them, 5 ifs and whiles, 6 rows of LATENCIES; .. NONE for another what.");
        String most = "int a[1];int b[1];int c[1];int d[1];int e[1];int g[1];int h[1];int i[1];int f(int p,int q,int r,int s){"
            + "{int t=1;}".repeat(12) + "if(p){}".repeat(20) + "while(0){}".repeat(20) + "}";
        String[] texts = {"int f(){}", "int a[1];int f(){}", "int f(int a){}", "int f(){int a=1;}", "int f(){if(1){}}", "int f(){while(1){}}",
            "int f(){if(1){}else{}}", "int f(){return 1;int a=2;if(1)while(1){}}", "int a[2];int b[3];int f(int c,int d){if(c)int e=1;else int e=2;}", most};
        int[][] wants = {{0, 0, 0, 0}, {1, 0, 0, 0}, {0, 1, 1, 0}, {0, 0, 1, 0}, {0, 0, 0, 1}, {0, 0, 0, 1}, {0, 0, 0, 1}, {0, 0, 1, 2},
            {2, 2, 4, 1}, {8, 4, 16, 40}};
        for (int i = 0; i < texts.length; i++) {
            TokenCircuit x = new TokenCircuit();
            Due.is("no PROGRAM", x.count(1), 0);
            Due.is("build", Due.build(x, texts[i]), 0);
            Due.is("a PROGRAM", x.count(1), 1);
            for (int what = 2; what <= 5; what++) {
                Due.is("count(" + what + ") of " + texts[i], x.count(what), wants[i][what - 2]);
            }
            Due.is("bytes", x.count(0), 0);
            Due.is("rows", x.count(6), 0);
            x.feed(0, 0, 0, 0, 0);
            x.latency(4);
            Due.is("bytes", x.count(0), 20);
            Due.is("rows", x.count(6), 1);
            for (int other : new int[] {-1, 11, 12, LEAST, MOST}) {
                Due.is("count(" + other + ")", x.count(other), -1);
            }
            Due.is("a FAULT", x.build(20), -1);
            Due.is("the PROGRAM of before", x.count(1), 1);
            Due.is("its variables", x.count(4), wants[i][2]);
        }
    }

    private static void size() {
        Due.sentence("Promise 15: How many cells ARRAY a has; NONE if there is none such.");
        int[] sizes = {1, 2, 3, 128, 254, 255, 256, 7};
        StringBuilder text = new StringBuilder();
        for (int n = 0; n <= 8; n++) {
            TokenCircuit x = Due.made(text + "int f(){}");
            for (int a = 0; a < n; a++) {
                Due.is("size(" + a + ") of " + n, x.size(a), sizes[a]);
            }
            for (int a : new int[] {-1, n, n + 1, 8, LEAST, MOST}) {
                Due.is("size(" + a + ") of " + n, x.size(a), -1);
            }
            if (n < 8) {
                text.append("int a").append(n).append('[').append(sizes[n]).append("];");
            }
        }
    }
}
