/** Terms 1, the edges of the FAULTS: what just goes, what just does not, and which of two is told. */
public final class FaultEdgeTest {
    private static final String HEAD = "int m[2];int f(int b){";
    private static final String[] IN_E = {"(", "m[", "-", "!", "~"};
    private static final String[] E_CLOSES = {")", "]", "", "", ""};
    private static final String[] STATEMENTS = {"{", "if(b)", "while(b)", "if(b)b=2;else "};
    private static final String[] STATEMENT_CLOSES = {"}", "", "", ""};

    private FaultEdgeTest() {
    }

    public static void main(String[] args) {
        deepInE();
        deepStatements();
        deepEnds();
        couldStandThere();
        oddOrDeep();
        toldTwice();
        ownBlock();
        behindItsStatement();
        meansNothing();
        misused();
        inNoWhile();
        cells();
        ninthArray();
        fifthParameter();
        variable17();
        branching41();
        worked401();
        oddOrDeepAheadOfAll();
        firstAlongTheText();
        leastAtOneToken();
        Due.end();
    }

    /** The function's body with this many of one kind of STATEMENT around, then of one kind within the E. */
    private static String nest(int statements, int statement, int signs, int sign, String inner) {
        return HEAD + STATEMENTS[statement].repeat(statements) + "b=" + IN_E[sign].repeat(signs) + inner
            + E_CLOSES[sign].repeat(signs) + ";" + STATEMENT_CLOSES[statement].repeat(statements) + "}";
    }

    private static void deepInE() {
        Due.sentence("7 DEEP: a ( { [ - ! ~ .. that could stand there, but within 16 others");
        for (int statement = 0; statement < STATEMENTS.length; statement++) {
            for (int sign = 0; sign < IN_E.length; sign++) {
                for (int last = 0; last < IN_E.length; last++) {
                    // The { of the function is the first; an if or while leaves room for its own ( too.
                    for (int around = 0; around <= 13; around++) {
                        String inner = IN_E[last] + "1" + E_CLOSES[last];
                        Due.sound(nest(around, statement, 14 - around, sign, inner));
                        String text = nest(around, statement, 15 - around, sign, inner);
                        int place = HEAD.length() + around * STATEMENTS[statement].length() + 2
                            + (15 - around) * IN_E[sign].length() + IN_E[last].length() - 1;
                        Due.fault(text, 7, place);
                    }
                }
            }
        }
    }

    private static void deepStatements() {
        Due.sentence("7 DEEP: a .. { .. if while that could stand there, but within 16 others");
        int at = HEAD.length();
        String ends = "}".repeat(16);
        Due.sound(HEAD + "{".repeat(15) + ends);
        Due.fault(HEAD + "{".repeat(16) + "}" + ends, 7, at + 15);
        for (String word : new String[] {"if", "while"}) {
            String whole = word + "(b)";
            int length = whole.length();
            Due.sound(HEAD + "{".repeat(13) + whole + "b=1;" + "}".repeat(14));
            Due.sound(HEAD + "{".repeat(13) + whole + "{}" + "}".repeat(14));
            Due.fault(HEAD + "{".repeat(14) + whole + "b=1;" + "}".repeat(15), 7, at + 14 + word.length());
            Due.fault(HEAD + "{".repeat(15) + whole + "b=1;" + "}".repeat(16), 7, at + 15);
            Due.sound(HEAD + whole.repeat(14) + "b=1;}");
            Due.sound(HEAD + whole.repeat(14) + "{}}");
            Due.fault(HEAD + whole.repeat(14) + "{{}}}", 7, at + 14 * length + 1);
            Due.fault(HEAD + whole.repeat(15) + "b=1;}", 7, at + 14 * length + word.length());
            Due.fault(HEAD + whole.repeat(14) + "{if(b){}}}", 7, at + 14 * length + 1);
            Due.fault(HEAD + whole.repeat(14) + "{while(b){}}}", 7, at + 14 * length + 1);
            Due.sound(HEAD + whole.repeat(13) + "b=((1));}");
            Due.fault(HEAD + whole.repeat(13) + "b=(((1)));}", 7, at + 13 * length + 4);
        }
        Due.sound(HEAD + "if(b)b=1;else ".repeat(14) + "b=1;}");
        Due.fault(HEAD + "if(b)b=1;else ".repeat(15) + "b=1;}", 7, at + 14 * 14 + 2);
    }

    /** Behind its end a thing is within nothing any more: as many as one likes stand side by side. */
    private static void deepEnds() {
        Due.sentence("( ( { [ till what ends it, a - ! ~ of one till the end of its UNARY, "
            + "if and while till the end of the whole STATEMENT)");
        String open = HEAD + "{".repeat(14);
        String close = "}".repeat(15);
        int at = open.length();
        for (String one : new String[] {"b=(1);", "m[0]=1;", "b=m[0];", "b=-1;", "b=!b;", "b=~b;", "{}", "m[b]=m[b]+(b);"}) {
            Due.sound(open + one.repeat(30) + close);
        }
        for (String one : new String[] {"(1)", "m[0]", "-1", "!1", "~1"}) {
            Due.sound(open + "b=1" + ("+" + one).repeat(30) + ";" + close);
            Due.sound(open + "b=" + one + "*" + one + "-" + one + ";" + close);
            Due.sound(open + "m[0]=" + one + ";" + close);
            Due.sound(open + "b=" + one + "-" + one + "==" + one + "&&" + one + ";" + close);
        }
        // A sign of one ends with its UNARY, and that holds all of NAME [ E ] and ( E ).
        Due.fault(open + "b=-(1);" + close, 7, at + 3);
        Due.fault(open + "b=!m[1];" + close, 7, at + 4);
        Due.fault(open + "b=~-1;" + close, 7, at + 3);
        Due.sound(open + "b=-1+(1)+m[1]+!1;" + close);
        Due.fault(open + "b=(-1);" + close, 7, at + 3);
        Due.fault(open + "b=m[(1)];" + close, 7, at + 4);
        Due.fault(open + "b=m[m[1]];" + close, 7, at + 5);
        Due.fault(open + "m[-1]=1;" + close, 7, at + 2);
        Due.sound(open + "m[1]=-1;" + close);
        String less = HEAD + "{".repeat(13);
        String lessClose = "}".repeat(14);
        for (String one : new String[] {"if(b)b=1;", "while(b)b=1;", "if(b){}", "if(b)b=1;else b=2;", "if(b){}else{}", "while(b){}"}) {
            Due.sound(less + one.repeat(20) + lessClose);
            Due.sound(less + one + "{{}}" + one + "b=((1));" + one + lessClose);
        }
        // The ( of an if or while ends ahead of its STATEMENT; the if lasts through both of its own.
        Due.sound(less + "if(b)b=-1;else b=-1;" + lessClose);
        Due.fault(less + "if(-b)b=-1;" + lessClose, 7, less.length() + 3);
        Due.fault(less + "if(b){{}}" + lessClose, 7, less.length() + 6);
        Due.fault(less + "if(b)b=1;else{{}}" + lessClose, 7, less.length() + 14);
        Due.fault(less + "while(b){{}}" + lessClose, 7, less.length() + 9);
        Due.sound(less + "if(b)b=1;{{}}" + lessClose);
    }

    private static void couldStandThere() {
        Due.sentence("that could stand there");
        String open = HEAD + "{".repeat(15);
        int at = open.length();
        String[] noStatements = {"(", "[", "-", "!", "~", ")", "1"};
        for (String one : noStatements) {
            Due.fault(open + one, 1, at);
        }
        for (String one : new String[] {"{", "if", "while"}) {
            Due.fault(open + one, 7, at);
            Due.fault(open + "b=" + one, 1, at + 2);
            Due.fault(open + "b=1" + one, 1, one.equals("{") ? at + 3 : at + 2);
        }
        for (String one : new String[] {"(", "-", "!", "~"}) {
            Due.fault(open + "b=" + one, 7, at + 2);
            Due.fault(open + "b=1+" + one, 7, at + 4);
        }
        for (String one : new String[] {"(", "[", "!", "~"}) {
            Due.fault(open + "b=1" + one, 1, at + 3);
        }
        Due.fault(open + "b=[", 1, at + 2);
        Due.fault(open + "b(", 1, at + 1);
        Due.fault(open + "b=b(", 1, at + 3);
        Due.fault(open + "b[", 7, at + 1);
        Due.fault(open + "b=b[", 7, at + 3);
        Due.fault(open + "x=x[", 7, at + 3);
        // A - between two sides is no sign of one.
        Due.sound(open + "b=1-1-b-1;" + "}".repeat(16));
        Due.fault(open + "b=1--1;", 7, at + 4);
    }

    private static void oddOrDeep() {
        Due.sentence("the first that is met by reading");
        Due.fault(HEAD + "{".repeat(16) + ")", 7, HEAD.length() + 15);
        Due.fault(HEAD + "{".repeat(15) + ")" + "{".repeat(16), 1, HEAD.length() + 15);
        Due.fault(HEAD + "{".repeat(16), 7, HEAD.length() + 15);
        Due.fault(HEAD + "{".repeat(15), 1, HEAD.length() + 15);
        Due.fault(HEAD + "b=" + "(".repeat(16) + "#", 7, HEAD.length() + 17);
        Due.fault(HEAD + "b=" + "(".repeat(15) + "#" + "(".repeat(9), 1, HEAD.length() + 17);
    }

    private static void toldTwice() {
        Due.sentence("2: a NAME that is told and was told ahead of it in sight "
            + "(an ARRAY, the function, a PARAMETER, a variable of this BLOCK or one around it");
        Due.fault("int a[1];int a[1];int f(){}", 2, 13);
        Due.fault("int a[1];int b[1];int a[1];int f(){}", 2, 22);
        Due.fault("int a[1];int a(){}", 2, 13);
        Due.fault("int a[1];int f(int a){}", 2, 19);
        Due.fault("int a[1];int f(){int a=1;}", 2, 21);
        Due.fault("int a[1];int f(){{int a=1;}}", 2, 22);
        Due.fault("int f(int f){}", 2, 10);
        Due.fault("int f(){int f=1;}", 2, 12);
        Due.fault("int f(int a,int a){}", 2, 16);
        Due.fault("int f(int a,int b,int a){}", 2, 22);
        Due.fault("int f(int a){int a=1;}", 2, 17);
        Due.fault("int f(int a){if(a){int a=1;}}", 2, 23);
        Due.fault("int f(){int a=1;int a=1;}", 2, 20);
        Due.fault("int f(){int a=1;{int a=1;}}", 2, 21);
        Due.fault("int f(){int a=1;{{{int a=1;}}}}", 2, 23);
        Due.fault("int f(){int a=1;{}int b=1;while(a)if(b){int a=1;}}", 2, 44);
        Due.sound("int f(){{int a=1;}int a=1;}");
        Due.sound("int f(){{int a=1;}{int a=1;}}");
        Due.sound("int f(){{{int a=1;}int a=1;}int a=1;}");
        Due.sound("int f(int c){if(c){int a=1;}else{int a=1;}while(c){int a=1;}int a=1;}");
    }

    private static void ownBlock() {
        Due.sentence("of an if or while whose STATEMENT is no BLOCK, that is one");
        Due.sound("int f(int c){if(c)int a=1;int a=2;}");
        Due.sound("int f(int c){if(c)int a=1;else int a=2;int a=3;}");
        Due.sound("int f(int c){while(c)int a=1;int a=2;}");
        Due.sound("int f(int c){if(c)if(c)int a=1;else int a=2;else int a=3;int a=4;}");
        Due.sound("int f(int c){while(c)while(c)int a=1;int a=2;}");
        Due.fault("int f(int c){if(c)int a=1;a=2;}", 3, 26);
        Due.fault("int f(int c){if(c)int a=1;else a=2;}", 3, 31);
        Due.fault("int f(int c){if(c)a=1;else int a=2;}", 3, 18);
        Due.fault("int f(int c){if(c)c=1;else int a=2;a=3;}", 3, 35);
        Due.fault("int f(int c){while(c)int a=1;a=2;}", 3, 29);
        Due.fault("int f(int c){if(c)int c=1;}", 2, 22);
        Due.fault("int f(int c){while(c)if(c)int c=1;}", 2, 30);
        Due.fault("int f(int c){int a=1;if(c)c=1;else int a=1;}", 2, 39);
    }

    private static void behindItsStatement() {
        Due.sentence("a variable is in sight behind its STATEMENT");
        Due.fault("int f(){int a=a;}", 3, 14);
        Due.fault("int f(){int a=1-(a);}", 3, 17);
        Due.fault("int m[1];int f(){int a=m[a];}", 3, 25);
        Due.sound("int f(){int a=1;int b=a;a=b;}");
        Due.sound("int f(){int a=1;{a=2;{a=3;}}}");
        Due.sound("int f(int c){int a=1;if(c)a=2;else a=3;while(a)a=a-1;return a;}");
        Due.fault("int f(){a=1;int a=1;}", 3, 8);
        Due.fault("int f(){while(a)int a=1;}", 3, 14);
    }

    private static void meansNothing() {
        Due.sentence("3: a NAME that means nothing in sight");
        Due.fault("int f(){x=1;}", 3, 8);
        Due.fault("int f(){x[0]=1;}", 3, 8);
        Due.fault("int f(){return x;}", 3, 15);
        Due.fault("int f(){return x[0];}", 3, 15);
        Due.fault("int m[1];int f(){m[x]=1;}", 3, 19);
        Due.fault("int m[1];int f(){m[0]=x;}", 3, 22);
        Due.fault("int f(){if(x){}}", 3, 11);
        Due.fault("int f(){while(x){}}", 3, 14);
        Due.fault("int f(){{int x=1;}return x;}", 3, 25);
        Due.fault("int f(){return 1;x=1;}", 3, 17);
        Due.fault("int f(){while(1){int x=1;}if(x){}}", 3, 29);
    }

    private static void misused() {
        Due.sentence("4: a NAME of a variable or PARAMETER with [ behind it, an ARRAY's without, the function's");
        String head = "int m[2];int f(int p){int v=1;";
        int at = head.length();
        for (String name : new String[] {"p", "v", "f"}) {
            Due.fault(head + name + "[0]=1;}", 4, at);
            Due.fault(head + "return 1+" + name + "[0];}", 4, at + 9);
            Due.fault(head + "m[" + name + "[0]]=1;}", 4, at + 2);
        }
        for (String name : new String[] {"m", "f"}) {
            Due.fault(head + name + "=1;}", 4, at);
            Due.fault(head + "return 1+" + name + ";}", 4, at + 9);
            Due.fault(head + "return (" + name + ");}", 4, at + 8);
            Due.fault(head + "m[" + name + "]=1;}", 4, at + 2);
            Due.fault(head + "int w=" + name + ";}", 4, at + 6);
            Due.fault(head + "if(" + name + "){}}", 4, at + 3);
        }
        Due.sound(head + "m [0]=m\n[p]+v+p;p=v;v=p;return m[m[v]];}");
    }

    private static void inNoWhile() {
        Due.sentence("5: break or continue in no while");
        for (String word : new String[] {"break", "continue"}) {
            Due.fault("int f(int a){" + word + ";}", 5, 13);
            Due.fault("int f(int a){{" + word + ";}}", 5, 14);
            Due.fault("int f(int a){if(a)" + word + ";}", 5, 18);
            Due.fault("int f(int a){if(a)a=1;else " + word + ";}", 5, 27);
            Due.fault("int f(int a){while(a)a=0;" + word + ";}", 5, 25);
            Due.fault("int f(int a){while(a){}" + word + ";}", 5, 23);
            Due.fault("int f(int a){while(a){while(a){}}" + word + ";}", 5, 33);
            Due.fault("int f(int a){return 1;" + word + ";}", 5, 22);
            Due.sound("int f(int a){while(a)" + word + ";}");
            Due.sound("int f(int a){while(a){{if(a)" + word + ";else{" + word + ";}}}}");
            Due.sound("int f(int a){while(a){while(a){}" + word + ";}}");
            Due.sound("int f(int a){while(a){" + word + ";" + word + ";}}");
        }
    }

    private static void cells() {
        Due.sentence("6 ROOM, at the token: the NUMBER of cells is not 1 to 256");
        for (String good : new String[] {"1", "2", "255", "256", "0001", "0000000256"}) {
            Due.sound("int a[" + good + "];int f(){}");
            Due.sound("int a[1];int b [ " + good + " ];int f(){}");
        }
        for (String bad : new String[] {"0", "000", "257", "512", "65537", "2147483647"}) {
            Due.fault("int a[" + bad + "];int f(){}", 6, 6);
            Due.fault("int a[1];int b[ " + bad + "];int f(){}", 6, 16);
        }
    }

    private static String list(int from, int to, String ahead, String behind) {
        StringBuilder text = new StringBuilder();
        for (int i = from; i < to; i++) {
            text.append(ahead).append('v').append((char) ('a' + i)).append(behind);
        }
        return text.toString();
    }

    private static void ninthArray() {
        Due.sentence("6 ROOM: the NAME of a ninth ARRAY");
        Due.sound(list(0, 7, "int ", "[1];") + "int f(){}");
        Due.sound(list(0, 8, "int ", "[256];") + "int f(){}");
        Due.fault(list(0, 9, "int ", "[1];") + "int f(){}", 6, 8 * 10 + 4);
        Due.fault(list(0, 20, "int ", "[1];") + "int f(){}", 6, 8 * 10 + 4);
        Due.is("arrays", Due.made(list(0, 8, "int ", "[9];") + "int f(){}").count(2), 8);
    }

    private static void fifthParameter() {
        Due.sentence("6 ROOM: the NAME of .. a fifth PARAMETER");
        for (int n = 0; n <= 4; n++) {
            String text = "int f(" + (n == 0 ? "" : list(0, n, ",int ", "").substring(1)) + "){}";
            Due.is("parameters", Due.made(text).count(3), n);
        }
        Due.fault("int f(" + list(0, 5, ",int ", "").substring(1) + "){}", 6, 6 + 4 * 7 + 4);
        Due.fault("int f(" + list(0, 6, ",int ", "").substring(1) + "){}", 6, 6 + 4 * 7 + 4);
        Due.fault("int f(" + list(0, 20, ",int ", "").substring(1) + "){}", 6, 6 + 4 * 7 + 4);
    }

    private static void variable17() {
        Due.sentence("6 ROOM: the NAME of .. a 17th variable (PARAMETERS among them)");
        for (int n = 0; n <= 4; n++) {
            String head = "int f(" + (n == 0 ? "" : list(0, n, ",int ", "").substring(1)) + "){";
            Due.is("variables", Due.made(head + list(n, 16, "int ", "=1;") + "}").count(4), 16);
            Due.fault(head + list(n, 17, "int ", "=1;") + "}", 6, head.length() + (16 - n) * 9 + 4);
            Due.fault(head + list(n, 26, "int ", "=1;") + "}", 6, head.length() + (16 - n) * 9 + 4);
        }
        // Those that are out of sight count too.
        Due.sound("int f(){" + "{int a=1;}".repeat(16) + "}");
        Due.fault("int f(){" + "{int a=1;}".repeat(17) + "}", 6, 8 + 160 + 5);
        Due.fault("int f(int b){" + "if(b)int a=1;".repeat(16) + "}", 6, 13 + 15 * 13 + 9);
        // ARRAYS and the function do not; and all that can be told can be used.
        String all = list(17, 25, "int ", "[1];") + "int f(){" + list(0, 16, "int ", "=1;");
        Due.sound(all + "}");
        Due.sound(all + list(0, 16, "", "=2;") + list(17, 25, "", "[0]=3;") + "}");
        Due.fault(all + "{int vp=1;}}", 2, all.length() + 5);
        Due.fault(all + "return vz;}", 3, all.length() + 7);
        Due.fault(all + "vp[0]=1;}", 4, all.length());
        Due.fault(all + "return vy;}", 4, all.length() + 7);
    }

    private static void branching41() {
        Due.sentence("6 ROOM: the 41st if or while");
        for (String one : new String[] {"if(1){}", "while(1){}", "if(1){}else{}"}) {
            Due.is("ifs and whiles", Due.made("int f(){" + one.repeat(40) + "}").count(5), 40);
            Due.fault("int f(){" + one.repeat(41) + "}", 6, 8 + 40 * one.length());
            Due.fault("int f(){" + one.repeat(60) + "}", 6, 8 + 40 * one.length());
        }
        Due.sound("int f(){" + "if(1)while(1){}".repeat(20) + "}");
        Due.fault("int f(){" + "if(1)while(1){}".repeat(20) + "if(1){}}", 6, 8 + 300);
        Due.fault("int f(){" + "while(1)if(1){}".repeat(20) + "while(1){}}", 6, 8 + 300);
        Due.fault("int f(){" + "if(1){}".repeat(39) + "if(1){}else if(2){}}", 6, 8 + 40 * 7 + 5);
        Due.fault("int f(){return 1;" + "if(1){}".repeat(41) + "}", 6, 17 + 280);
    }

    private static void worked401() {
        Due.sentence("6 ROOM: the 401st NUMBER, NAME in an E, or sign of one or two.");
        String head = "int m[2];int f(int a){";
        String full = head + "a=1;".repeat(399);
        int at = full.length();
        // One more goes, whatever it is; what stands behind it is the 401st.
        Due.sound(full + "a=1;}");
        Due.sound(full + "a=a;}");
        Due.sound(full + "return 1;}");
        Due.sound(full + "if(a){}}");
        Due.sound(full + "while(1){}}");
        Due.sound(full + "int b=1;}");
        Due.sound(full + "a=((((1))));}");
        Due.fault(full + "a=m[1];}", 6, at + 4);
        Due.fault(full + "a=m[a];}", 6, at + 4);
        Due.fault(full + "m[1]=a;}", 6, at + 5);
        Due.fault(full + "a=-1;}", 6, at + 3);
        Due.fault(full + "a=!a;}", 6, at + 3);
        Due.fault(full + "a=~1;}", 6, at + 3);
        Due.fault(full + "if(a)a=1;}", 6, at + 7);
        Due.fault(full + "while(1)a=1;}", 6, at + 10);
        for (String sign : new String[] {"||", "&&", "|", "^", "&", "==", "!=", "<", "<=", ">", ">=", "<<", ">>", "+", "-", "*",
            "/", "%"}) {
            Due.fault(full + "a=1" + sign + "1;}", 6, at + 3);
            Due.fault(full + "a=(1)" + sign + "1;}", 6, at + 5);
        }
        Due.fault(full + "a=1;a=1;}", 6, at + 6);
        Due.fault(full + "a=1;a=a;}", 6, at + 6);
        Due.fault(full + "a=1;a=m[1];}", 6, at + 6);
        Due.fault(full + "a=1;a=-1;}", 6, at + 6);
        Due.fault(full + "a=1;a=!1;}", 6, at + 6);
        Due.fault(full + "a=1;a=~1;}", 6, at + 6);
        Due.fault(full + "a=1;return 1;}", 6, at + 11);
        Due.fault(full + "a=1;int b=1;}", 6, at + 10);
        Due.fault(full + "a=1;m[1]=1;}", 6, at + 6);
        // Each kind counts, and counts once.
        Due.sound(head + "a=m[0];".repeat(200) + "}");
        Due.fault(head + "a=m[0];".repeat(200) + "a=0;}", 6, head.length() + 1400 + 2);
        Due.sound(head + "m[0]=a;".repeat(200) + "}");
        Due.fault(head + "m[0]=a;".repeat(200) + "a=0;}", 6, head.length() + 1400 + 2);
        Due.sound(head + "a=!a;".repeat(200) + "}");
        Due.fault(head + "a=!a;".repeat(200) + "a=0;}", 6, head.length() + 1000 + 2);
        String sum = head + "a=1" + "+1".repeat(199);
        Due.sound(sum + ";}");
        Due.fault(sum + "+1;}", 6, sum.length() + 1);
        Due.sound(sum + ";a=1;}");
        Due.fault(sum + ";a=1;a=1;}", 6, sum.length() + 7);
        // As many signs as can wait for what stands to their right: all ten levels, in each of 15 ( or [.
        String rising = "1||1&&1|1^1&1==1<1<<1+1*";
        Due.sound(head + "a=" + (rising + "(").repeat(15) + rising + "1" + ")".repeat(15) + ";}");
        Due.sound(head + "a=" + (rising + "m[").repeat(15) + rising + "1" + "]".repeat(15) + ";}");
        Due.sound(head + "a=" + (rising + "-").repeat(15) + rising + "1;}");
        Due.fault(head + "a=" + (rising + "(").repeat(16), 7, head.length() + 2 + 16 * rising.length() + 15);
        // What is told or set is in no E.
        Due.sound(head + "a=1;".repeat(385) + list(0, 15, "int ", "=1;") + "}");
        // Nor is the NUMBER of cells.
        Due.sound(list(0, 8, "int ", "[1];") + "int f(){return 1" + "+1".repeat(199) + ";}");
    }

    private static void oddOrDeepAheadOfAll() {
        Due.sentence("If there is none, the first along the text .. of");
        String[] earlier = {"int p=1;", "x=1;", "f=1;", "break;", ""};
        for (String one : earlier) {
            String head = (one.isEmpty() ? "int a[0];" : "") + "int f(int p){" + one;
            Due.fault(head, 1, head.length());
            Due.fault(head + "}}", 1, head.length() + 1);
            Due.fault(head + "p=1}", 1, head.length() + 3);
            Due.fault(head + "#}", 1, head.length());
            Due.fault(head + "{".repeat(16), 7, head.length() + 15);
            Due.fault(head + "p=" + "(".repeat(16), 7, head.length() + 17);
            Due.fault(head + "p=" + "-".repeat(16), 7, head.length() + 17);
        }
        Due.fault("int f(){" + "if(1){}".repeat(41), 1, 8 + 287);
        Due.fault("int f(int a){" + "a=1;".repeat(401) + "a=1", 1, 13 + 1604 + 3);
        Due.fault("int f(int a){" + "a=1;".repeat(401) + "a=" + "(".repeat(16), 7, 13 + 1604 + 2 + 15);
    }

    /** Each two of the kinds 2 to 6, one ahead of the other. */
    private static void firstAlongTheText() {
        Due.sentence("the first along the text");
        String[] spoils = {"int p=1;", "x=1;", "f=1;", "break;", "{int w=1;}"};
        int[] offsets = {4, 0, 0, 0, 5};
        String head = "int f(int p,int q,int r,int s){" + list(0, 12, "int ", "=1;");
        for (int first = 0; first < 5; first++) {
            for (int second = 0; second < 5; second++) {
                Due.fault(head + spoils[first] + spoils[second] + "}", first + 2, head.length() + offsets[first]);
                Due.fault(head + "p=q;" + spoils[first] + "p=q;" + spoils[second] + "}", first + 2,
                    head.length() + 4 + offsets[first]);
            }
        }
        // Within one STATEMENT.
        Due.fault("int m[1];int f(int p){int p=x;}", 2, 26);
        Due.fault("int m[1];int f(int p){int q=x+m;}", 3, 28);
        Due.fault("int m[1];int f(int p){int q=m+x;}", 4, 28);
        Due.fault("int m[1];int f(int p){m=x;}", 4, 22);
        Due.fault("int m[1];int f(int p){x=m;}", 3, 22);
        Due.fault("int m[1];int f(int p){m[m]=x;}", 4, 24);
        Due.fault("int m[1];int f(int p){p[x]=m;}", 4, 22);
        Due.fault("int m[0];int m[1];int f(){}", 6, 6);
        Due.fault("int m[1];int m[0];int f(){}", 2, 13);
        Due.fault("int m[1];int f(int m,int m){}", 2, 19);
    }

    private static void leastAtOneToken() {
        Due.sentence("(at one token the least kind)");
        Due.fault(list(0, 8, "int ", "[1];") + "int va[1];int f(){}", 2, 84);
        Due.fault(list(0, 8, "int ", "[1];") + "int vz[1];int f(){}", 6, 84);
        Due.fault(list(0, 8, "int ", "[1];") + "int va[0];int f(){}", 2, 84);
        Due.fault(list(0, 8, "int ", "[1];") + "int vz[0];int f(){}", 6, 84);
        Due.fault("int f(" + list(0, 4, ",int ", "").substring(1) + ",int va){}", 2, 6 + 28 + 4);
        Due.fault("int f(" + list(0, 4, ",int ", "").substring(1) + ",int f){}", 2, 6 + 28 + 4);
        Due.fault("int f(){" + list(0, 16, "int ", "=1;") + "int va=1;}", 2, 8 + 144 + 4);
        Due.fault("int f(){" + list(0, 16, "int ", "=1;") + "int f=1;}", 2, 8 + 144 + 4);
        String full = "int m[1];int f(int a){" + "a=1;".repeat(400);
        int at = full.length();
        Due.fault(full + "a=x;}", 3, at + 2);
        Due.fault(full + "a=x[0];}", 3, at + 2);
        Due.fault(full + "a=m;}", 4, at + 2);
        Due.fault(full + "a=f;}", 4, at + 2);
        Due.fault(full + "a=a[0];}", 4, at + 2);
        Due.fault(full + "a=a;}", 6, at + 2);
        Due.fault(full + "a=-x;}", 6, at + 2);
    }
}
