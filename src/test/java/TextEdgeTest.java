/** Terms 1, the edges of the text, its tokens and its grammar: what still goes, and the first that does not. */
public final class TextEdgeTest {
    private static final String[] WORDS = {"int", "if", "else", "while", "break", "continue", "return"};
    private static final String[] SIGNS_OF_TWO = {"||", "&&", "|", "^", "&", "==", "!=", "<", "<=", ">", ">=", "<<", ">>",
        "+", "-", "*", "/", "%"};

    private TextEdgeTest() {
    }

    public static void main(String[] args) {
        length();
        longest();
        blanks();
        names();
        numbers();
        signs();
        words();
        arrays();
        parameters();
        blocks();
        statements();
        elses();
        levels();
        unaries();
        leftUnfinished();
        endsTooSoon();
        noToken();
        Due.end();
    }

    private static void inE(String e, int kind, int offset) {
        Due.fault("int f(){return " + e + ";}", kind, kind == 0 ? -1 : 15 + offset);
    }

    private static void length() {
        Due.sentence("THE TEXT: at most 2,000 bytes.");
        String text = "int f(int a){return a+" + "0".repeat(2000 - 25) + "3;}";
        Due.is("length", text.length(), 2000);
        Due.sound(text);
        Due.result(Due.made(text), "2,000 bytes without a blank", 8, 5);
        Due.fault(text.substring(0, 1999) + " ", 1, 2000);
        Due.fault(text.substring(0, 1999) + ")", 1, 1999);
        Due.fault(text.substring(0, 1999) + "#", 1, 1999);
        Due.fault(text.substring(0, 1999), 1, 1999);
        Due.fault(" ".repeat(2000), 1, 2000);
        Due.fault(" ".repeat(1999) + "i", 1, 1999);
        Due.fault(" ".repeat(1997) + "int", 1, 2000);
        Due.sound(" ".repeat(1991) + "int f(){}");
        // The most tokens that a text can have, and that can stand one behind the other.
        Due.sound("int f(){" + "{}".repeat(995) + "}");
        Due.fault("int f(){" + "{}".repeat(996), 1, 2000);
        Due.fault(";".repeat(2000), 1, 0);
    }

    private static void longest() {
        Due.sentence("TOKENS, each as long as it can be");
        String[] twos = {"==", "!=", "<=", "<<", ">=", ">>", "&&", "||"};
        for (String sign : twos) {
            inE("1" + sign + "1", 0, 0);
            inE("1" + sign.charAt(0) + " " + sign.charAt(1) + "1", 1, sign.equals("==") || sign.equals("!=") ? 1 : 3);
        }
        inE("1===1", 1, 3);
        inE("1!==1", 1, 3);
        inE("1<<=1", 1, 3);
        inE("1<<<1", 1, 3);
        inE("1<=<1", 1, 3);
        inE("1>>>1", 1, 3);
        inE("1>>=1", 1, 3);
        inE("1&&&1", 1, 3);
        inE("1|||1", 1, 3);
        inE("1&&&&1", 1, 3);
        inE("1<>1", 1, 2);
        inE("1=<1", 1, 1);
        inE("1=!1", 1, 1);
        inE("1&|1", 1, 2);
        // A sign that has no longer one is a token by itself.
        inE("1--1", 0, 0);
        inE("1-!1", 0, 0);
        inE("1!=!1", 0, 0);
        inE("1==!!~-1", 0, 0);
        inE("1<-1", 0, 0);
        inE("1<<~1", 0, 0);
        inE("1&&!1", 0, 0);
        inE("1^^1", 1, 2);
        inE("1**1", 1, 2);
        inE("1++1", 1, 2);
        inE("1//1", 1, 2);
        Due.sound("int a1b(int a1){int a=a1;return a1-a;}");
        Due.fault("int a1b(int a1){int a=a1;return a1a;}", 3, 32);
        Due.fault("int f(int a){return a1;}", 3, 20);
        Due.fault("int f(int a){return a 1;}", 1, 22);
        Due.fault("int f(int a){a==1;}", 1, 14);
        Due.sound("int f(int a){a=!1;a=-1;a=~1;}");
        Due.fault("int f(int a){a=!=1;}", 1, 15);
    }

    private static void blanks() {
        Due.sentence("between them blanks (10, 32)");
        for (int one = 0; one < 256; one++) {
            String text = "int f(){return (1)" + (char) one + "&(2);}";
            if (one == 10 || one == 32) {
                Due.sound(text);
            } else {
                // Behind a sign of two, or ; the & does not fit; && is one sign; all else does not fit itself.
                boolean goes = "+-*/%|^<>;".indexOf(one) >= 0;
                Due.fault(text, one == '&' ? 0 : 1, one == '&' ? -1 : goes ? 19 : 18);
            }
        }
        Due.sound("\n int\nf \n(\n \n)\n{\n}\n");
        Due.sound("int f(){}");
        Due.fault("intf(){}", 1, 0);
        Due.fault("int f(){return1;}", 1, 15);
        Due.fault("int f(){in t a=1;}", 1, 11);
        Due.fault("int f(){return 1 2;}", 1, 17);
    }

    private static void names() {
        Due.sentence("NAMES (a letter a .. z, then letters and digits, 8 at most)");
        for (String name : new String[] {"a", "z", "a0", "z9", "az", "abcdefgh", "z9999999", "a0b1c2d3", "zzzzzzzz"}) {
            Due.result(Due.made("int f(int " + name + "){return " + name + "+1;}"), name, 6, 5);
            Due.sound("int " + name + "[2];int f(){" + name + "[0]=" + name + "[1];}");
            Due.sound("int " + name + "(){}");
            Due.sound("int f(){int " + name + "=1;" + name + "=2;}");
        }
        for (String name : new String[] {"abcdefghi", "a12345678", "zzzzzzzzzz", "abcdefghijklmnopqrstuvwxyz"}) {
            Due.fault("int f(int " + name + "){}", 1, 10);
            Due.fault("int " + name + "[2];int f(){}", 1, 4);
            Due.fault("int " + name + "(){}", 1, 4);
            Due.fault("int f(){int " + name + "=1;}", 1, 12);
            Due.fault("int f(){" + name + "=1;}", 1, 8);
            inE(name, 1, 0);
        }
        // The bytes at either side of a .. z and of 0 .. 9.
        for (char one : new char[] {'`', '@', 'A', 'Z', '_', '$', '.', ':', '?', 200, 255}) {
            Due.fault("int " + one + "(){}", 1, 4);
            Due.fault("int a" + one + "(){}", 1, 5);
        }
        Due.fault("int {(){}", 1, 4);
        Due.fault("int a{(){}", 1, 5);
        Due.fault("int a/(){}", 1, 5);
        Due.fault("int 0(){}", 1, 4);
        Due.fault("int 9a(){}", 1, 4);
        // All of a NAME is looked at, to its eighth sign, and its length too.
        Due.fault("int f(int abcdefgh){return abcdefgi;}", 3, 27);
        Due.fault("int f(int abcdefgh){return bbcdefgh;}", 3, 27);
        Due.fault("int f(int abcdefgh){return abcdefg;}", 3, 27);
        Due.fault("int f(int a){return aa;}", 3, 20);
        Due.sound("int f(int a,int aa,int aaa,int a0){}");
    }

    private static void numbers() {
        Due.sentence("NUMBERS (digits, the value at most 2147483647, no letter right behind)");
        Due.result(Due.made("int f(){return 0;}"), "0", 0);
        Due.result(Due.made("int f(){return 9;}"), "9", 9);
        Due.result(Due.made("int f(){return 2147483647;}"), "the greatest", 2147483647);
        Due.result(Due.made("int f(){return 2147483646;}"), "one less", 2147483646);
        Due.result(Due.made("int f(){return 000000000000000000002147483647;}"), "zeros ahead", 2147483647);
        Due.result(Due.made("int f(){return 0000000000000000000000000000000;}"), "zeros alone", 0);
        Due.result(Due.made("int f(){return 0010;}"), "not by eight", 10);
        Due.result(Due.made("int f(){return -2147483647;}"), "the least but one", -2147483647);
        for (String one : new String[] {"2147483648", "2147483650", "2147483657", "2200000000", "3000000000", "4294967295",
            "4294967296", "4294967297", "9999999999", "10000000000", "9223372036854775807", "9223372036854775808",
            "18446744073709551615", "18446744073709551616", "18446744073709551617", "02147483648", "9".repeat(300)}) {
            inE(one, 1, 0);
            inE("1+" + one + "+1", 1, 2);
            Due.fault("int a[" + one + "];int f(){}", 1, 6);
        }
        inE("-2147483648", 1, 1);
        for (String one : new String[] {"1a", "0x1", "12z", "2147483647l", "0int", "5if"}) {
            inE(one, 1, 0);
            inE("(" + one + ")", 1, 1);
            Due.fault("int a[" + one + "];int f(){}", 1, 6);
        }
        // A letter behind a blank is another token, and so is what is no letter.
        inE("1 a", 1, 2);
        inE("1A", 1, 1);
        inE("1_", 1, 1);
        inE("1.", 1, 1);
        inE("1`", 1, 1);
        inE("1{", 1, 1);
        inE("1+1", 0, 0);
        Due.fault("int f(int a){while(a)if(1)a=1else a=2;}", 1, 28);
        Due.sound("int f(int a){while(a)if(1)a=1;else a=2;}");
    }

    private static void signs() {
        Due.sentence("SIGNS ( ) { } [ ] ; , = == != ! < <= << > >= >> + - * / % & && | || ^ ~.");
        for (String sign : SIGNS_OF_TWO) {
            inE("1" + sign + "1", 0, 0);
            inE("1 " + sign + " 1", 0, 0);
            inE(sign + "1", sign.equals("-") ? 0 : 1, 0);
            inE("1" + sign, 1, 1 + sign.length());
        }
        for (String sign : new String[] {"!", "~"}) {
            inE(sign + "1", 0, 0);
            inE("1 " + sign + " 1", 1, 2);
        }
        for (String sign : new String[] {"?", ":", ".", "#", "@", "\"", "'", "\\", "`", "$", "_", "=", ","}) {
            inE("1" + sign + "1", 1, 1);
        }
    }

    private static void words() {
        Due.sentence("WORDS are int if else while break continue return: no NAMES.");
        for (String word : WORDS) {
            Due.fault("int " + word + "[1];int f(){}", 1, 4);
            Due.fault("int " + word + "(){}", 1, 4);
            Due.fault("int f(int " + word + "){}", 1, 10);
            Due.fault("int f(){int " + word + "=1;}", 1, 12);
            inE(word, 1, 0);
            inE("1+" + word, 1, 2);
            inE("(" + word + ")", 1, 1);
            inE(word + "[1]", 1, 0);
            // One letter less or more, or another, is a NAME, if it is not too long for one.
            for (String name : new String[] {word.substring(0, word.length() - 1), word + "s", word + "0", "x" + word.substring(1)}) {
                if (name.length() <= 8) {
                    Due.result(Due.made("int f(int " + name + "){return " + name + ";}"), name, 5, 5);
                } else {
                    Due.fault("int f(int " + name + "){return " + name + ";}", 1, 10);
                }
            }
        }
        Due.fault("int f(int a){else=1;}", 1, 13);
        Due.fault("int f(int a){if=1;}", 1, 15);
        Due.fault("int f(int a){return=1;}", 1, 19);
        Due.sound("int f(int forx,int void,int char,int do){}");
    }

    private static void arrays() {
        Due.sentence("PROGRAM: { int NAME [ NUMBER ] ; } int NAME ( .. ) BLOCK "
            + "(the ARRAYS with how many cells they have, then the function, its PARAMETERS).");
        Due.sound("int f(){}");
        Due.sound("int a[1];int f(){}");
        Due.sound("int a[1];int b[2];int f(){}");
        Due.fault("int f(){}int a[1];", 1, 9);
        Due.fault("int f(){}int g(){}", 1, 9);
        Due.fault("int f(){} ;", 1, 10);
        Due.fault("f(){}", 1, 0);
        Due.fault("int a[1]int f(){}", 1, 8);
        Due.fault("int a[1],b[1];int f(){}", 1, 8);
        Due.fault("int a[1]=1;int f(){}", 1, 8);
        Due.fault("int a[];int f(){}", 1, 6);
        Due.fault("int a[x];int f(){}", 1, 6);
        Due.fault("int a[-1];int f(){}", 1, 6);
        Due.fault("int a[(1)];int f(){}", 1, 6);
        Due.fault("int a[1+1];int f(){}", 1, 7);
        Due.fault("int a[1][1];int f(){}", 1, 8);
        Due.fault("int a;int f(){}", 1, 5);
        Due.fault("int a[1];", 1, 9);
        Due.fault("(){}", 1, 0);
        Due.fault("{}", 1, 0);
        Due.fault("int (){}", 1, 4);
        Due.fault("int {}", 1, 4);
        Due.fault("int [1];int f(){}", 1, 4);
        Due.fault("int a[1];(){}", 1, 9);
        Due.fault("int a[int f(){}", 1, 6);
        Due.fault("int a[(){}", 1, 6);
        Due.fault("int a[1(){}", 1, 7);
        Due.fault("int a[1](){}", 1, 8);
        Due.fault("int a[1;int f(){}", 1, 7);
    }

    private static void parameters() {
        Due.sentence("( [ int NAME { , int NAME } ] )");
        Due.sound("int f(int a){}");
        Due.sound("int f(int a,int b){}");
        Due.fault("int f(int){}", 1, 9);
        Due.fault("int f(a){}", 1, 6);
        Due.fault("int f(int a,){}", 1, 12);
        Due.fault("int f(,){}", 1, 6);
        Due.fault("int f(int a,b){}", 1, 12);
        Due.fault("int f(int a int b){}", 1, 12);
        Due.fault("int f(int a;int b){}", 1, 11);
        Due.fault("int f(int a[1]){}", 1, 11);
        Due.fault("int f(int a,,int b){}", 1, 12);
        Due.fault("int f{}", 1, 5);
        Due.fault("int f({}", 1, 6);
        Due.fault("int f(int{}", 1, 9);
        Due.fault("int f(int a{}", 1, 11);
        Due.fault("int f(int a,{}", 1, 12);
        Due.fault("int f()", 1, 7);
        Due.fault("int f();", 1, 7);
        Due.fault("int f()return 1;", 1, 7);
    }

    private static void blocks() {
        Due.sentence("BLOCK: { {STATEMENT} } (in braces).");
        Due.sound("int f(){{}}");
        Due.sound("int f(){{}{}{{}}}");
        Due.fault("int f(){;}", 1, 8);
        Due.fault("int f(){{};}", 1, 10);
        Due.fault("int f(){1;}", 1, 8);
        Due.fault("int f(){(1);}", 1, 8);
        Due.fault("int f(){-1;}", 1, 8);
        Due.fault("int f(){]}", 1, 8);
        Due.fault("int f(){)}", 1, 8);
        Due.fault("int f(){else{}}", 1, 8);
        Due.fault("int f(){{}", 1, 10);
        Due.fault("int f(){}}", 1, 9);
    }

    private static void statements() {
        Due.sentence("STATEMENT: int NAME = E ; NAME = E ; NAME [ E ] = E ; if ( E ) STATEMENT [else STATEMENT] "
            + ".. while ( E ) STATEMENT break ; continue ; return E ; BLOCK.");
        String[] goes = {"int b=1;", "a=1;", "m[a]=1;", "if(a)a=1;", "if(a)a=1;else a=2;", "if(a){}", "while(a)a=0;", "while(a){}",
            "while(a)break;", "while(a)continue;", "return a;", "{}", "{a=1;}", "if(a)if(a){}", "while(a)while(a){}", "if(a)return a;else{}"};
        for (String one : goes) {
            Due.sound("int m[2];int f(int a){" + one + "}");
            Due.sound("int m[2];int f(int a){if(a)" + one + "}");
            Due.sound("int m[2];int f(int a){while(a)" + one + "}");
            Due.sound("int m[2];int f(int a){if(a){}else " + one + "}");
            Due.sound("int m[2];int f(int a){{" + one + "}{" + one + "}}");
        }
        Due.fault("int f(int a){int b;}", 1, 18);
        Due.fault("int f(int a){int b=;}", 1, 19);
        Due.fault("int f(int a){int b[1]=1;}", 1, 18);
        Due.fault("int f(int a){a;}", 1, 14);
        Due.fault("int f(int a){a=;}", 1, 15);
        Due.fault("int f(int a){a=1,a=2;}", 1, 16);
        Due.fault("int f(int a){a[]=1;}", 1, 15);
        Due.fault("int f(int a){a[1];}", 1, 17);
        Due.fault("int f(int a){a[1][1]=1;}", 1, 17);
        Due.fault("int f(int a){a()=1;}", 1, 14);
        Due.fault("int f(int a){return;}", 1, 19);
        Due.fault("int f(int a){break a;}", 1, 19);
        Due.fault("int f(int a){continue 1;}", 1, 22);
        Due.fault("int f(int a){if()a=1;}", 1, 16);
        Due.fault("int f(int a){while()a=1;}", 1, 19);
        Due.fault("int f(int a){if(a);}", 1, 18);
        Due.fault("int f(int a){while(a);}", 1, 21);
        Due.fault("int f(int a){if(a)}", 1, 18);
        Due.fault("int f(int a){if a a=1;}", 1, 16);
        Due.fault("int f(int a){if(a)a=1;else;}", 1, 26);
    }

    private static void elses() {
        Due.sentence("(an else is the nearest if's)");
        String inner = "int f(int a,int b){if(a)if(b)return 1;else return 2;return 3;}";
        Due.result(Due.made(inner), "both", 1, 1, 1);
        Due.result(Due.made(inner), "the first alone", 2, 1, 0);
        Due.result(Due.made(inner), "the second alone", 3, 0, 1);
        String outer = "int f(int a,int b){if(a){if(b)return 1;}else return 2;return 3;}";
        Due.result(Due.made(outer), "the first alone", 3, 1, 0);
        Due.result(Due.made(outer), "the second alone", 2, 0, 1);
        String loop = "int f(int a,int b){if(a)while(1)if(b)return 1;else return 2;else return 4;return 3;}";
        Due.result(Due.made(loop), "the first alone", 2, 1, 0);
        Due.result(Due.made(loop), "neither", 4, 0, 0);
        Due.fault("int f(int a){else a=1;}", 1, 13);
        Due.fault("int f(int a){if(a)a=1;a=2;else a=3;}", 1, 26);
        Due.fault("int f(int a){if(a)a=1;else a=2;else a=3;}", 1, 31);
        Due.fault("int f(int a){while(a)a=1;else a=2;}", 1, 25);
        Due.sound("int f(int a){if(a)if(a)a=1;else a=2;else a=3;}");
        Due.fault("int f(int a){if(a)if(a)a=1;else a=2;else a=3;else a=4;}", 1, 45);
    }

    /** Each two neighbours among the levels, either way round, where the other order would answer another thing. */
    private static void levels() {
        Due.sentence("LEVELS of signs of two, each worked from the left: || , && , | , ^ , & , == !=, < <= > >=, << >>, + -, * / % "
            + "(the later ones bind more)");
        is("1||1&&0", 1);
        is("0&&1||1", 1);
        is("2&&1|2", 1);
        is("2|2&&1", 1);
        is("2|1^3", 2);
        is("3^1|1", 3);
        is("2^3&1", 3);
        is("4&1^1", 1);
        is("2&2==2", 0);
        is("1==3&1", 0);
        is("3&4!=4", 0);
        is("0==0<2", 0);
        is("2>1==2", 0);
        is("2!=1<=0", 1);
        is("1<1<<1", 1);
        is("1<<2>=2", 1);
        is("1>>1<2", 1);
        is("1<<1+1", 4);
        is("2+1<<1", 6);
        is("9>>2-1", 4);
        is("2-1*2", 0);
        is("3*2-1", 5);
        is("7-7/7", 6);
        is("7+7%4", 10);
        // From the left, on each level that can show it.
        is("9-4-3", 2);
        is("9-4+3", 8);
        is("64/8/2", 4);
        is("64/8*2", 16);
        is("17%10%4", 3);
        is("2*7%4", 2);
        is("1<<2<<1", 8);
        is("64>>2<<1", 32);
        is("3<2<1", 1);
        is("3>2>1", 0);
        is("2>=2<=0", 0);
        is("2==2==1", 1);
        is("3==3!=3", 1);
        Due.sentence("below these UNARY: - UNARY, ! UNARY, ~ UNARY, or NUMBER, NAME, NAME [ E ], ( E ).");
        is("-2+3", 1);
        is("!0+1", 2);
        is("~0&1", 1);
        is("-1*-1", 1);
        is("-!~0", 0);
        is("!-0", 1);
        is("~-1", 0);
        is("-(2+3)*2", -10);
        is("!(0)||0", 1);
    }

    private static void is(String e, int want) {
        Due.result(Due.made("int f(){return " + e + ";}"), e, want);
    }

    private static void unaries() {
        inE("()", 1, 1);
        inE("-", 1, 1);
        inE("+1", 1, 0);
        inE("*1", 1, 0);
        inE("1-", 1, 2);
        inE("1-*1", 1, 2);
        inE("(1", 1, 2);
        inE("1)", 1, 1);
        inE("1]", 1, 1);
        inE("(1]", 1, 2);
        inE("1[0]", 1, 1);
        inE("(1)(1)", 1, 3);
        inE("(1)[0]", 1, 3);
        inE("1 -", 1, 3);
        inE("", 1, 0);
        inE("a(1)", 1, 1);
        inE("a[1)", 1, 3);
        inE("a[]", 1, 2);
        inE("a[1][1]", 1, 4);
        inE("a=1", 1, 1);
        inE("1,1", 1, 1);
    }

    /** A STATEMENT that is cut behind each of its tokens, and another that would go by itself. */
    private static void leftUnfinished() {
        Due.sentence("1: a token with which no PROGRAM goes on");
        String[] statements = {"int b = a ;", "int b = - ( a + 1 ) ;", "a = a ;", "a [ a ] = a ;", "a [ ( a ) ] = ! a ;", "if ( a )", "while ( a )",
            "if ( a ) a = 1 ; else", "while ( ( a ) )", "break ;", "continue ;", "return a ;", "return ( a [ 1 ] ) ;", "return a [ a [ a ] ] ;"};
        for (String statement : statements) {
            for (int i = 0; i < statement.length(); i++) {
                String ahead = "int f(int a){while(a){" + statement.substring(0, i);
                // Behind a ; the first part of an if with else is whole.
                if (statement.charAt(i) != ' ' || statement.charAt(i - 1) == ';') {
                    continue;
                }
                boolean takesMore = ahead.endsWith("if ( a )");
                for (String other : new String[] {"return 1;", "break;", "if(a){}", "while(a){}", "{}", "int c=1;"}) {
                    if (!takesMore) {
                        Due.fault(ahead + " " + other + "}}", 1, ahead.length() + 1);
                    }
                }
                Due.fault(ahead + " }}", 1, ahead.length() + 1);
            }
        }
    }

    /** The same text, cut behind each of its bytes: a token that is cut still goes on, or is another one. */
    private static void endsTooSoon() {
        Due.sentence("the text's length, if it ends too soon");
        Due.fault("", 1, 0);
        Due.fault(" ", 1, 1);
        Due.fault("\n\n\n", 1, 3);
        String text = "int m[3];int f(int a,int b){int c=-a;m[c]=!(b+1)*2;while(a<1){if(b)break;else continue;}return m[0];}";
        for (int i = 0; i < text.length(); i++) {
            char ahead = i == 0 ? ' ' : text.charAt(i - 1);
            boolean cutsWord = ahead >= 'a' && ahead <= 'z' && text.charAt(i) >= 'a' && text.charAt(i) <= 'z';
            if (!cutsWord) {
                Due.fault(text.substring(0, i), 1, i);
                Due.fault(text.substring(0, i) + "  \n", 1, i + 3);
            }
        }
        Due.sound(text);
        Due.fault("i", 1, 0);
        Due.fault("int f(){retur", 1, 13);
        Due.fault("int f(){return", 1, 14);
        Due.fault("int f(){whil", 1, 12);
        Due.fault("int f(){els", 1, 11);
        Due.fault("int f(){else", 1, 8);
    }

    private static void noToken() {
        Due.sentence("1: a token with which no PROGRAM goes on (what is no token, at its first byte");
        Due.fault("#", 1, 0);
        Due.fault(" #", 1, 1);
        Due.fault("int f(){}#", 1, 9);
        Due.fault("int f(){} 1a", 1, 10);
        Due.fault("int f(){} abcdefghi", 1, 10);
        Due.fault("int f(){} 2147483648", 1, 10);
        Due.fault("int f(){abcdefghi}", 1, 8);
        Due.fault("int f(){1a}", 1, 8);
        // Ahead of it a token that does not fit is met first.
        Due.fault("int f(){)#", 1, 8);
        Due.fault("int f()) #", 1, 7);
        Due.fault("; #", 1, 0);
        Due.fault("int f(){return 1 # ;;", 1, 17);
    }
}
