/** Promise 11: run, and with it what the text means (Terms 2). */
public final class RunTest {
    private static final int LEAST = Integer.MIN_VALUE;
    private static final int MOST = Integer.MAX_VALUE;
    private static final int[] VALUES = {0, 1, -1, 2, -2, 3, 7, -7, 31, 32, 33, -31, 255, 65536, MOST, MOST - 1, LEAST, LEAST + 1};

    private RunTest() {
    }

    public static void main(String[] args) {
        refusals();
        signsOfTwo();
        signsOfOne();
        levels();
        cells();
        statements();
        leaving();
        theLimit();
        Due.end();
    }

    private static void refusals() {
        TokenCircuit x = new TokenCircuit();
        Due.is("run(5) without a program", x.run(5), -1);
        Due.is("build", Due.build(x, "int m[2];int f(int a){m[0]=m[0]+1;return m[0];}"), 0);
        Due.is("run(5)", x.run(5), 0);
        for (int limit : new int[] {0, -1, 3001, LEAST, MOST}) {
            Due.is("run(" + limit + ")", x.run(limit), -1);
            Due.is("nothing is done", x.cell(0, 0), 1);
            Due.is("told stays", x.told(1), 1);
            Due.is("the write stays", x.write(0, 2), 1);
        }
        Due.is("run(1)", x.run(1), 0);
        Due.is("run(3000)", x.run(3000), 0);
        Due.is("three RUNS were done", x.cell(0, 0), 3);
    }

    /** A sign of two, worked in 64 bits; the lower 32 are what the document means. */
    static long plain(String sign, int a, int b) {
        switch (sign) {
            case "||": return a != 0 | b != 0 ? 1 : 0;
            case "&&": return a != 0 & b != 0 ? 1 : 0;
            case "|": return (long) a | b;
            case "^": return (long) a ^ b;
            case "&": return (long) a & b;
            case "==": return a == b ? 1 : 0;
            case "!=": return a == b ? 0 : 1;
            case "<": return a < b ? 1 : 0;
            case "<=": return a > b ? 0 : 1;
            case ">": return a > b ? 1 : 0;
            case ">=": return a < b ? 0 : 1;
            case "<<": return (long) a << (b & 31);
            case ">>": return (long) a >> (b & 31);
            case "+": return (long) a + b;
            case "-": return (long) a - b;
            case "*": return (long) a * b;
            case "/": return b == 0 ? -1 : (long) a / b;
            default: return b == 0 ? a : (long) a % b;
        }
    }

    private static void signsOfTwo() {
        String[] signs = {"||", "&&", "|", "^", "&", "==", "!=", "<", "<=", ">", ">=", "<<", ">>", "+", "-", "*", "/", "%"};
        for (String sign : signs) {
            for (int a : VALUES) {
                TokenCircuit x = Due.made("int f(int a,int b){return a" + sign + "b;}");
                for (int b : VALUES) {
                    Due.result(x, a + sign + b, (int) plain(sign, a, b), a, b);
                }
            }
        }
    }

    private static void signsOfOne() {
        TokenCircuit x = Due.made("int m[3];int f(int a){m[0]=-a;m[1]=!a;m[2]=~a;return - -a+!!a+~~a;}");
        for (int a : VALUES) {
            Due.result(x, "signs of one of " + a, a + (a == 0 ? 0 : 1) + a, a);
            Due.is("-" + a, x.cell(0, 0), -a);
            Due.is("!" + a, x.cell(0, 1), a == 0 ? 1 : 0);
            Due.is("~" + a, x.cell(0, 2), ~a);
        }
        Due.result(Due.made("int f(){return 2147483647+1;}"), "wrap", LEAST);
        Due.result(Due.made("int f(){return -2147483647-1;}"), "the least", LEAST);
        Due.result(Due.made("int f(){return 007;}"), "zeros ahead", 7);
    }

    private static void value(String e, int want) {
        Due.result(Due.made("int m[4];int f(){int a=6;int b=3;m[1]=1;m[2]=2;m[3]=3;return " + e + ";}"), e, want);
    }

    private static void levels() {
        value("1+2*3", 7);
        value("(1+2)*3", 9);
        value("20-5-3", 12);
        value("100/10/5", 2);
        value("100%7*3", 6);
        value("2*3%4", 2);
        value("1<<2+1", 8);
        value("64>>2>>1", 8);
        value("1<2<3", 1);
        value("3>2>1", 0);
        value("5<3==0", 1);
        value("3&2==2", 1);
        value("6^3&2", 4);
        value("1|6^7", 1);
        value("0&&0|1", 0);
        value("1||0&&0", 1);
        value("1||1&&0", 1);
        value("-a+b", -3);
        value("-a*-b", 18);
        value("!a+1", 1);
        value("~a&7", 1);
        value("- - -a", -6);
        value("-!~a", 0);
        value("-(a-b)-(b-a)", 0);
        value("a-b-1-(a-b-1)", 0);
        value("m[m[1]+1]*10+m[3]", 23);
        value("-m[2]*m[m[m[3]]]", -6);
        value("((((a))))", 6);
        value("a- -b", 9);
        value("a--b", 9);
        value("a!=b==1", 1);
        value("1+2<<1<6&&7==7|8", 0);
        value("1||0&&1|2^3&4==5<6<<7+8*9", 1);
        value("9*8+7<<6<5==4&3^2|1&&0||0", 0);
        value("a&&b", 1);
        value("a||m[0]", 1);
    }

    private static void cells() {
        TokenCircuit x = Due.made("int m[5];int f(int i){m[i]=i;return m[i-5]+m[i+5];}");
        int[] where = {0, 4, 5, -1, -5, -6, 1000003, MOST, LEAST};
        for (int i : where) {
            int cell = Math.floorMod(i, 5);
            x.give(0, i);
            x.run(1);
            Due.is("cell of index " + i, x.write(0, 1), cell);
            Due.is("what is there", x.cell(0, cell), i);
        }
        Due.result(Due.made("int m[1];int f(){m[77]=5;return m[-3];}"), "one cell alone", 5);
        Due.result(Due.made("int m[2];int f(){m[0]=1;m[m[0]]=m[0]+m[1]+7;return m[1];}"), "first the place", 8);
        // Both sides of && and || are worked: the cells of both are read.
        TokenCircuit both = Due.made("int m[2];int f(){return (m[0]&&m[1])+(1||m[1]);}");
        Due.result(both, "both sides", 1);
        Due.is("cells that were read", both.told(3), 3);
    }

    private static void statements() {
        Due.result(Due.made("int f(){}"), "nothing", 0);
        Due.result(Due.made("int f(int a){a=3;}"), "the end is as return 0", 0, 5);
        Due.result(Due.made("int f(int a){if(a)return 1;}"), "return of an if", 1, 5);
        Due.result(Due.made("int f(int a){if(a)return 1;}"), "the end behind an if", 0, 0);
        Due.result(Due.made("int f(int a){if(a)if(a-1)return 1;else return 2;return 3;}"), "the nearest if's else", 2, 1);
        Due.result(Due.made("int f(int a){if(a)if(a-1)return 1;else return 2;return 3;}"), "the nearest if's else", 3, 0);
        Due.result(Due.made("int f(int a){if(a){if(a-1)return 1;}else return 2;return 3;}"), "the outer if's else", 2, 0);
        Due.result(Due.made("int f(int a){if(a)if(a-1)return 1;else return 2;else return 4;return 3;}"), "two elses", 4, 0);
        Due.result(Due.made("int f(int a){if(a)while(a>9)if(a)a=a-1;else a=2;else a=4;return a;}"), "else over while", 9, 12);
        Due.result(Due.made("int f(int a){if(a)while(a>9)if(a)a=a-1;else a=2;else a=4;return a;}"), "else over while", 4, 0);
        Due.result(Due.made("int f(){int i=0;int s=0;while(i<4){int j=s;s=j+i;i=i+1;}return s;}"), "a variable of a while", 6);
        Due.result(Due.made("int f(){int s=0;{int j=4;s=j;}{int j=5;s=s*10+j;}return s;}"), "blocks", 45);
        Due.result(Due.made("int f(int a){if(a)int b=1;else int b=2;int b=3;return b;}"), "a STATEMENT as a block", 3, 1);
        Due.result(Due.made("int f(int a){a=a+1;int b=a;a=b*2;return a+b;}"), "a PARAMETER is set", 12, 3);
    }

    private static void leaving() {
        String counting = "int f(int n){int i=0;int s=0;while(1){i=i+1;if(i>n)break;if(i%2)continue;s=s+i;}return s*100+i;}";
        Due.result(Due.made(counting), "break and continue", 1208, 7);
        Due.result(Due.made(counting), "break at once", 1, 0);
        String nested = "int f(){int i=0;int s=0;while(i<3){int j=0;while(1){j=j+1;if(j>i)break;s=s+1;}i=i+1;continue;s=1000;}return s;}";
        Due.result(Due.made(nested), "break leaves the inner while alone", 3);
        Due.result(Due.made("int f(){while(1){while(0)break;break;}return 4;}"), "break behind a while within one", 4);
        Due.result(Due.made("int f(){return 1;return 2;}"), "what can't be reached", 1);
        Due.result(Due.made("int f(){return 1;while(1){if(1)break;else continue;}}"), "what can't be reached", 1);
        Due.result(Due.made("int f(){while(1)return 6;}"), "return from a while", 6);
    }

    private static void theLimit() {
        TokenCircuit x = Due.made("int m[1];int f(){while(1)m[0]=m[0]+1;}");
        Due.is("run(3000)", x.run(3000), 1);
        Due.is("STEPS", x.told(2), 3000);
        Due.is("writes", x.told(4), 1499);
        Due.is("cell", x.cell(0, 0), 1499);
        Due.is("run(1)", x.run(1), 1);
        Due.is("cell", x.cell(0, 0), 1499);
        Due.is("run(2)", x.run(2), 1);
        Due.is("run(3)", x.run(3), 1);
        Due.is("cell", x.cell(0, 0), 1500);
        TokenCircuit ends = Due.made("int f(int n){while(n)n=n-1;return 5;}");
        ends.give(0, 1499);
        Due.is("3001 STEPS, one too many", ends.run(3000), 1);
        ends.give(0, 1498);
        Due.is("2999 STEPS", ends.run(3000), 0);
        Due.is("STEPS", ends.told(2), 2999);
        Due.is("2999 STEPS, just enough", ends.run(2999), 0);
        Due.is("2999 STEPS, one too many", ends.run(2998), 1);
    }
}
