/** Terms 2, the edges of what a text means: where ints wrap, what is empty, and how far a LIMIT lets a RUN go. */
public final class MeaningEdgeTest {
    private static final int LEAST = Integer.MIN_VALUE;
    private static final int MOST = Integer.MAX_VALUE;

    private MeaningEdgeTest() {
    }

    public static void main(String[] args) {
        wrap();
        dividing();
        byNothing();
        leastByMinusOne();
        shifting();
        comparing();
        not();
        bothSides();
        cellsFrom0On();
        floorRest();
        placeFirst();
        fullest();
        begins();
        endOfBlock();
        stepsOfFunction();
        stepsOfWhile();
        stepsOfIf();
        stepsOfNothing();
        limit();
        nothingOfTheNext();
        accesses();
        Due.end();
    }

    private static void two(String sign, int a, int b, int want) {
        Due.result(Due.made("int f(int a,int b){return a" + sign + "b;}"), a + " " + sign + " " + b, want, a, b);
    }

    private static void one(String sign, int a, int want) {
        Due.result(Due.made("int f(int a){return " + sign + "a;}"), sign + " " + a, want, a);
    }

    private static void wrap() {
        Due.sentence("Ints have 32 bits and wrap.");
        two("+", MOST, 1, LEAST);
        two("+", MOST, MOST, -2);
        two("+", LEAST, -1, MOST);
        two("+", LEAST, LEAST, 0);
        two("+", MOST, LEAST, -1);
        two("+", MOST, 0, MOST);
        two("-", LEAST, 1, MOST);
        two("-", MOST, -1, LEAST);
        two("-", 0, LEAST, LEAST);
        two("-", -1, LEAST, MOST);
        two("-", LEAST, LEAST, 0);
        two("*", MOST, 2, -2);
        two("*", LEAST, -1, LEAST);
        two("*", LEAST, 2, 0);
        two("*", LEAST, LEAST, 0);
        two("*", MOST, MOST, 1);
        two("*", 65536, 65536, 0);
        two("*", 65536, 32768, LEAST);
        two("*", 46341, 46341, -2147479015);
        one("-", LEAST, LEAST);
        one("-", MOST, -MOST);
        one("-", -MOST, MOST);
        one("-", 0, 0);
        one("~", LEAST, MOST);
        one("~", MOST, LEAST);
        one("~", -1, 0);
        one("~", 0, -1);
        Due.result(Due.made("int f(){return 2147483647+1;}"), "of two NUMBERS", LEAST);
        Due.result(Due.made("int f(){return -2147483647-2;}"), "of two NUMBERS", MOST);
    }

    private static void dividing() {
        Due.sentence("/ and % cut towards 0");
        two("/", 7, 2, 3);
        two("/", -7, 2, -3);
        two("/", 7, -2, -3);
        two("/", -7, -2, 3);
        two("%", 7, 2, 1);
        two("%", -7, 2, -1);
        two("%", 7, -2, 1);
        two("%", -7, -2, -1);
        two("/", 1, 2, 0);
        two("/", -1, 2, 0);
        two("%", -1, 2, -1);
        two("/", LEAST, 2, -1073741824);
        two("/", LEAST, LEAST, 1);
        two("/", MOST, LEAST, 0);
        two("%", MOST, LEAST, MOST);
        two("%", LEAST, MOST, -1);
        two("/", LEAST, MOST, -1);
        two("/", 0, LEAST, 0);
        two("%", 0, -5, 0);
    }

    private static void byNothing() {
        Due.sentence("x / 0 is -1, x % 0 is x");
        for (int x : new int[] {0, 1, -1, 7, -7, MOST, LEAST}) {
            two("/", x, 0, -1);
            two("%", x, 0, x);
        }
        Due.result(Due.made("int m[1];int f(){return 5/m[0]*10+5%m[0];}"), "of a cell of 0", -5);
        Due.result(Due.made("int f(){return 1/0/0%0;}"), "again and again", -1);
    }

    private static void leastByMinusOne() {
        Due.sentence("the least int by -1 is itself, its rest 0");
        two("/", LEAST, -1, LEAST);
        two("%", LEAST, -1, 0);
        two("/", -MOST, -1, MOST);
        two("/", MOST, -1, -MOST);
        two("%", MOST, -1, 0);
        two("/", LEAST, 1, LEAST);
        two("%", LEAST, 1, 0);
        two("/", LEAST, -2, 1073741824);
    }

    private static void shifting() {
        Due.sentence("<< and >> (with the sign) go by the five lowest bits.");
        two("<<", 1, 0, 1);
        two("<<", 1, 30, 1073741824);
        two("<<", 1, 31, LEAST);
        two("<<", 1, 32, 1);
        two("<<", 1, 33, 2);
        two("<<", 3, 31, LEAST);
        two("<<", 1, -1, LEAST);
        two("<<", 1, -31, 2);
        two("<<", 1, -32, 1);
        two("<<", 5, 64, 5);
        two("<<", 5, LEAST, 5);
        two("<<", 1, MOST, LEAST);
        two("<<", MOST, 1, -2);
        two(">>", MOST, 30, 1);
        two(">>", MOST, 31, 0);
        two(">>", MOST, 32, MOST);
        two(">>", LEAST, 31, -1);
        two(">>", LEAST, 1, -1073741824);
        two(">>", LEAST, 32, LEAST);
        two(">>", LEAST, 33, -1073741824);
        two(">>", -1, 31, -1);
        two(">>", -1, 1, -1);
        two(">>", -7, 1, -4);
        two(">>", 7, -31, 3);
        two(">>", LEAST, -1, -1);
        two(">>", 9, LEAST, 9);
    }

    private static void comparing() {
        Due.sentence("Comparing gives 1 or 0");
        int[] row = {LEAST, LEAST + 1, -2, -1, 0, 1, 2, MOST - 1, MOST};
        for (int i = 0; i < row.length; i++) {
            for (int j = 0; j < row.length; j++) {
                two("<", row[i], row[j], i < j ? 1 : 0);
                two("<=", row[i], row[j], i <= j ? 1 : 0);
                two(">", row[i], row[j], i > j ? 1 : 0);
                two(">=", row[i], row[j], i >= j ? 1 : 0);
                two("==", row[i], row[j], i == j ? 1 : 0);
                two("!=", row[i], row[j], i != j ? 1 : 0);
            }
        }
    }

    private static void not() {
        Due.sentence("! gives 1 of 0, else 0");
        one("!", 0, 1);
        for (int x : new int[] {1, -1, 2, 256, 65536, MOST, LEAST}) {
            one("!", x, 0);
            one("!!", x, 1);
        }
        one("!!", 0, 0);
    }

    private static void bothSides() {
        Due.sentence("&& and || give 1 or 0, and both their sides are worked");
        int[] row = {0, 1, -1, 2, 256, LEAST, MOST};
        for (int a : row) {
            for (int b : row) {
                two("&&", a, b, a != 0 && b != 0 ? 1 : 0);
                two("||", a, b, a != 0 || b != 0 ? 1 : 0);
            }
        }
        for (String sign : new String[] {"&&", "||"}) {
            for (int v = 0; v <= 1; v++) {
                TokenCircuit x = Due.made("int m[3];int f(int a){return m[0]" + sign + "m[1]" + sign + "m[2];}");
                for (int i = 0; i < 3; i++) {
                    x.poke(0, i, v);
                }
                Due.result(x, sign + " of three", v);
                Due.is("cells that were read", x.told(3), 3);
                // A condition is an E as any other.
                TokenCircuit y = Due.made("int m[3];int f(int a){if(" + v + sign + "m[1]){}while(" + v + sign + "m[2])break;}");
                y.run(3000);
                Due.is("cells that were read of conditions", y.told(3), 2);
            }
        }
    }

    private static void cellsFrom0On() {
        Due.sentence("ARRAYS have cells 0 and on");
        for (int size : new int[] {1, 2, 255, 256}) {
            TokenCircuit x = Due.made("int l[256];int m[" + size + "];int r[256];int f(int i){m[i]=i+7;return m[i];}");
            for (int i : new int[] {0, size - 1}) {
                Due.result(x, "cell " + i + " of " + size, i + 7, i);
                Due.is("it is there", x.cell(1, i), i + 7);
                Due.is("write", x.write(0, 1), i);
            }
            // None of it comes into the ARRAYS beside it.
            for (int i : new int[] {0, 1, 254, 255}) {
                Due.is("ahead", x.cell(0, i), 0);
                Due.is("behind", x.cell(2, i), 0);
            }
        }
    }

    private static void floorRest() {
        Due.sentence("the cell of an index is its floor rest by how many there are");
        int[][] cells = {
            // index, of 1, of 2, of 3, of 5, of 256
            {0, 0, 0, 0, 0, 0}, {1, 0, 1, 1, 1, 1}, {2, 0, 0, 2, 2, 2}, {3, 0, 1, 0, 3, 3}, {5, 0, 1, 2, 0, 5}, {255, 0, 1, 0, 0, 255},
            {256, 0, 0, 1, 1, 0}, {257, 0, 1, 2, 2, 1}, {-1, 0, 1, 2, 4, 255}, {-2, 0, 0, 1, 3, 254}, {-3, 0, 1, 0, 2, 253},
            {-5, 0, 1, 1, 0, 251}, {-256, 0, 0, 2, 4, 0}, {-257, 0, 1, 1, 3, 255}, {MOST, 0, 1, 1, 2, 255}, {LEAST, 0, 0, 1, 2, 0},
            {LEAST + 1, 0, 1, 2, 3, 1}
        };
        int[] sizes = {1, 2, 3, 5, 256};
        for (int k = 0; k < sizes.length; k++) {
            for (int[] row : cells) {
                TokenCircuit x = Due.made("int m[" + sizes[k] + "];int f(int i){m[i]=9;return m[i];}");
                Due.result(x, "index " + row[0] + " of " + sizes[k], 9, row[0]);
                Due.is("cell of index " + row[0] + " of " + sizes[k], x.write(0, 1), row[k + 1]);
                Due.is("it is there", x.cell(0, row[k + 1]), 9);
                x.poke(0, row[k + 1], 4);
                TokenCircuit y = Due.made("int m[" + sizes[k] + "];int f(int i){return m[i];}");
                y.poke(0, row[k + 1], 6);
                Due.result(y, "read by index " + row[0] + " of " + sizes[k], 6, row[0]);
            }
        }
    }

    private static void placeFirst() {
        Due.sentence("of NAME [ E ] = E first the place, then what comes there");
        Due.result(Due.made("int m[2];int f(){m[m[0]]=m[0]+m[1]+1;m[m[0]]=m[0]+5;return m[0]*100+m[1];}"), "by cells", 106);
        TokenCircuit x = Due.made("int m[4];int f(){m[m[1]+1]=m[m[1]+1]+3;return m[1];}");
        Due.result(x, "the cell as it was", 3);
        Due.is("reads", x.told(3), 4);
    }

    private static void fullest() {
        Due.sentence("All of an E is worked from the left, each part wholly");
        // All ten levels wait in each of 15 ( at once.
        String rising = "0||0&&5|0^6&7==8<9<<1+2*";
        TokenCircuit x = Due.made("int f(int a){return " + (rising + "(").repeat(15) + rising + "a" + ")".repeat(15) + ";}");
        Due.result(x, "0 at last", 0, 1);
        String adding = "1+2*";
        TokenCircuit y = Due.made("int f(int a){return " + (adding + "(").repeat(15) + "a" + ")".repeat(15) + ";}");
        Due.result(y, "15 times twice and one more", 32767 + 32768 * 3, 3);
        TokenCircuit z = Due.made("int m[4];int f(int a){m[1]=2;m[2]=3;m[3]=1;return 10*" + "m[".repeat(14) + "a" + "]".repeat(14) + "+a;}");
        Due.result(z, "a cell of a cell of a cell", 12, 2);
        TokenCircuit long400 = Due.made("int f(int a){return a" + "-1".repeat(199) + ";}");
        Due.result(long400, "199 times one less", 801, 1000);
    }

    private static void begins() {
        Due.sentence("A variable begins when its int is reached.");
        Due.result(Due.made("int f(int n){int s=0;while(n){int a=10;a=a+n;s=s+a;n=n-1;}return s;}"), "anew each time", 36, 3);
        Due.result(Due.made("int f(int n){int s=0;while(n){int a=s;s=a+n;n=n-1;}return s;}"), "from what there is", 6, 3);
        Due.result(Due.made("int f(int n){if(n){int a=5;n=a;}{int a=0;n=n+a;}return n;}"), "of another BLOCK", 5, 1);
        Due.result(Due.made("int f(int n){int a=1;int b=a+1;int c=b+1;return a*100+b*10+c;}"), "one behind the other", 123, 0);
        TokenCircuit x = Due.made("int f(int n){int a=n;a=a+1;n=a;return n;}");
        Due.result(x, "the first RUN", 5, 4);
        Due.is("the second RUN", x.run(1), 0);
        Due.is("nothing stays of the first", x.told(1), 5);
    }

    private static void endOfBlock() {
        Due.sentence("The end of the BLOCK of the function is as return 0.");
        for (String body : new String[] {"", "a=3;", "{}", "if(a)return 0;", "while(0){}", "while(1)break;", "if(0)return 4;else{}",
            "if(0)return 4;", "{{int b=9;}}"}) {
            TokenCircuit x = Due.made("int f(int a){" + body + "}");
            Due.result(x, body, 0, 7);
            Due.is("it ended", x.told(0), 0);
            Due.is("a result was delivered", x.told(5), 1);
        }
        // Not the end of another BLOCK.
        Due.result(Due.made("int f(int a){{a=3;}{}return a;}"), "behind other BLOCKS", 3, 7);
    }

    /** A RUN has just so many STEPS: with that LIMIT it ends, with one less it does not. */
    private static void steps(String body, int a, int want) {
        TokenCircuit x = Due.made("int f(int a){" + body + "}");
        x.give(0, a);
        Due.is("run(3000) of " + body, x.run(3000), 0);
        Due.is("STEPS of " + body, x.told(2), want);
        Due.is("run(" + want + ") of " + body, x.run(want), 0);
        Due.is("its STEPS", x.told(2), want);
        if (want > 1) {
            Due.is("run(" + (want - 1) + ") of " + body, x.run(want - 1), 1);
            Due.is("its STEPS", x.told(2), want - 1);
        }
    }

    private static void stepsOfFunction() {
        Due.sentence("STEPS are begun: at the function's beginning");
        steps("", 0, 1);
        steps("return a;", 0, 1);
        steps("{{}}a=1;{a=2;}int b=a;return b;", 0, 1);
        TokenCircuit x = Due.made("int m[1];int f(){m[0]=1;}");
        Due.is("run(1)", x.run(1), 0);
        Due.is("STEPS", x.told(2), 1);
    }

    private static void stepsOfWhile() {
        Due.sentence("as an E of a while begins to be worked; as the STATEMENT of a while begins, "
            + "and as what is behind a while begins (also behind break)");
        steps("while(0)a=1;", 0, 3);
        steps("while(a)a=0;", 1, 5);
        steps("while(a)a=a-1;", 2, 7);
        steps("while(a)a=a-1;return 1;", 100, 203);
        steps("while(1)break;", 0, 4);
        steps("while(1){break;}a=1;", 0, 4);
        steps("while(a){a=a-1;continue;}", 2, 7);
        steps("while(1)return 1;", 0, 3);
        steps("while(1){while(1)break;break;}", 0, 7);
        steps("while(a){a=a-1;while(0){}}", 1, 7);
        steps("while(0){}while(0){}", 0, 5);
    }

    private static void stepsOfIf() {
        Due.sentence("as the first, or the second, STATEMENT of an if begins, and as what is behind an if begins "
            + "(an if without else whose E is 0 goes on behind it at once)");
        steps("if(a)a=1;", 1, 3);
        steps("if(a)a=1;", 0, 2);
        steps("if(a){}", 1, 3);
        steps("if(a){}", 0, 2);
        steps("if(a)a=1;else a=2;", 1, 3);
        steps("if(a)a=1;else a=2;", 0, 3);
        steps("if(a){}else{}", 0, 3);
        steps("if(a)if(a)a=1;", 1, 5);
        steps("if(a)if(0)a=1;", 1, 4);
        steps("if(a)if(0)a=1;else a=2;", 1, 5);
        steps("if(a)a=1;else if(1)a=2;", 0, 5);
        steps("if(a)a=1;else if(0)a=2;", 0, 4);
        steps("if(a)a=1;if(a)a=1;return a;", 1, 5);
        steps("if(a)a=1;if(a)a=1;return a;", 0, 3);
        steps("if(-a)a=1;", LEAST, 3);
        steps("if(a)while(0){}else{}", 1, 5);
        steps("while(a){a=0;if(a){}}", 1, 6);
    }

    private static void stepsOfNothing() {
        Due.sentence("(What can't be reached, as it stands behind return, break, continue or an if both of whose "
            + "STATEMENTS leave, has no STEPS.)");
        steps("return 1;while(1){}", 0, 1);
        steps("return 1;if(1)a=2;", 0, 1);
        steps("if(a)return 1;", 1, 2);
        steps("if(a)return 1;else return 2;", 1, 2);
        steps("if(a)return 1;else return 2;", 0, 2);
        steps("if(a)return 1;else return 2;while(1){}", 0, 2);
        steps("if(a)return 1;else a=2;", 1, 2);
        steps("if(a)return 1;else a=2;", 0, 3);
        steps("if(a)a=1;else return 2;", 0, 2);
        steps("while(1){break;while(1){}}", 0, 4);
        steps("while(a){a=0;continue;while(1){}}", 1, 5);
        steps("while(a){if(a)break;else continue;while(1){}}", 1, 5);
        steps("while(a){if(a)break;else continue;}", 0, 3);
        steps("while(a){if(1){a=0;continue;}else break;}", 1, 6);
        steps("while(1){if(a)return 1;else break;}", 1, 4);
        steps("while(1){if(a)return 1;else break;}", 0, 5);
        steps("{return 1;}if(1){}", 0, 1);
        steps("while(1){{break;}a=1;}", 0, 4);
    }

    private static void limit() {
        Due.sentence("A RUN has a LIMIT: if one STEP more than that would begin, it ends there, UNENDED");
        TokenCircuit x = Due.made("int f(int a){while(a)a=a-1;return 9;}");
        for (int n : new int[] {0, 1, 2, 50, 1498}) {
            x.give(0, n);
            int all = 3 + 2 * n;
            Due.is("as many as there are", x.run(all), 0);
            Due.is("result", x.told(1), 9);
            Due.is("STEPS", x.told(2), all);
            Due.is("one less", x.run(all - 1), 1);
            Due.is("no result", x.told(1), 0);
            Due.is("STEPS", x.told(2), all - 1);
            Due.is("none delivered", x.told(5), 0);
            Due.is("one more", x.run(Math.min(3000, all + 1)), 0);
            Due.is("STEPS", x.told(2), all);
        }
        x.give(0, 1499);
        Due.is("3001 STEPS with the greatest LIMIT", x.run(3000), 1);
        Due.is("STEPS", x.told(2), 3000);
        TokenCircuit even = Due.made("int f(int a){if(a){}while(a)a=a-1;return 9;}");
        even.give(0, 1497);
        Due.is("2999 STEPS", even.run(3000), 0);
        Due.is("STEPS", even.told(2), 2999);
        TokenCircuit last = Due.made("int f(int a){if(0){}while(a)a=a-1;return 9;}");
        last.give(0, 1498);
        Due.is("3000 STEPS", last.run(3000), 0);
        Due.is("STEPS", last.told(2), 3000);
        Due.is("result", last.told(1), 9);
        last.give(0, 1499);
        Due.is("3002 STEPS", last.run(3000), 1);
        Due.is("STEPS", last.told(2), 3000);
        TokenCircuit ever = Due.made("int f(){while(1){}}");
        for (int most : new int[] {1, 2, 3, 2999, 3000}) {
            Due.is("for ever, but for the LIMIT", ever.run(most), 1);
            Due.is("STEPS", ever.told(2), most);
        }
    }

    private static void nothingOfTheNext() {
        Due.sentence("all of the STEPS up to it was done, nothing of that one");
        String text = "int m[9];int f(int a){m[0]=m[8]+1;while(m[1]<1){m[1]=m[1]+1;if(a)m[2]=1;else m[3]=1;m[4]=1;}m[5]=1;return m[5]+m[6];}";
        // What is read and written with each LIMIT: a STEP's own and all ahead of it.
        int[] reads = {1, 2, 3, 3, 3, 4, 6};
        int[] writes = {1, 1, 2, 3, 4, 4, 5};
        for (int most = 1; most <= 7; most++) {
            for (int a = 0; a <= 1; a++) {
                TokenCircuit x = Due.made(text);
                x.give(0, a);
                Due.is("run(" + most + ")", x.run(most), most == 7 ? 0 : 1);
                Due.is("STEPS", x.told(2), most);
                Due.is("reads", x.told(3), reads[most - 1]);
                Due.is("writes", x.told(4), writes[most - 1]);
                Due.is("m[0]", x.cell(0, 0), 1);
                Due.is("m[1]", x.cell(0, 1), most >= 3 ? 1 : 0);
                Due.is("m[2]", x.cell(0, 2), most >= 4 && a == 1 ? 1 : 0);
                Due.is("m[3]", x.cell(0, 3), most >= 4 && a == 0 ? 1 : 0);
                Due.is("m[4]", x.cell(0, 4), most >= 5 ? 1 : 0);
                Due.is("m[5]", x.cell(0, 5), most >= 7 ? 1 : 0);
                Due.is("result", x.told(1), most >= 7 ? 1 : 0);
            }
        }
    }

    private static void accesses() {
        Due.sentence("ACCESSES are what is read and written of ARRAYS.");
        TokenCircuit x = Due.made("int m[2];int f(int a){a=a+a;m[0]=a;m[0]=m[0]+m[0];int b=m[1]*0;return b;}");
        x.give(0, 3);
        Due.is("run", x.run(1), 0);
        Due.is("reads", x.told(3), 3);
        Due.is("writes", x.told(4), 2);
        TokenCircuit none = Due.made("int m[2];int f(int a){int b=a;a=b;if(a)b=1;return a+b;}");
        none.give(0, 3);
        Due.is("run", none.run(3), 0);
        Due.is("no reads", none.told(3), 0);
        Due.is("no writes", none.told(4), 0);
    }
}
