/** Promise 4: fault, and with it all FAULTS of a text (Terms 1). */
public final class FaultTest {
    private FaultTest() {
    }

    public static void main(String[] args) {
        whats();
        tokens();
        grammar();
        everyTokenEverywhere();
        deep();
        toldTwice();
        unknown();
        misused();
        stray();
        roomForNames();
        roomForParts();
        theFirst();
        Due.end();
    }

    private static void whats() {
        TokenCircuit x = new TokenCircuit();
        for (String text : new String[] {"int f(){}", "int f(){return x;}"}) {
            Due.build(x, text);
            for (int what : new int[] {-1, 2, 3, Integer.MIN_VALUE, Integer.MAX_VALUE}) {
                Due.is("fault(" + what + ")", x.fault(what), -1);
            }
        }
        Due.is("fault(0)", x.fault(0), 3);
        Due.is("fault(1)", x.fault(1), 15);
        x.build(5);
        Due.is("fault(0) behind -2", x.fault(0), 3);
        Due.is("fault(1) behind -2", x.fault(1), 15);
        Due.build(x, "int f(){}");
        Due.is("fault(0) without", x.fault(0), 0);
        Due.is("fault(1) without", x.fault(1), -1);
    }

    /** The E behind return begins at 15. */
    private static void inE(String e, int kind, int offset) {
        Due.fault("int f(){return " + e + ";}", kind, kind == 0 ? -1 : 15 + offset);
    }

    private static void tokens() {
        inE("2147483647", 0, 0);
        inE("2147483648", 1, 0);
        inE("0000000000000002147483647", 0, 0);
        inE("99999999999999999999999999999999999999", 1, 0);
        inE("4294967297", 1, 0);
        inE("18446744073709551617", 1, 0);
        inE("12a", 1, 0);
        inE("12 a", 1, 3);
        inE("1+12a", 1, 2);
        inE("12A", 1, 2);
        inE("12_", 1, 2);
        inE("1$", 1, 1);
        inE("1\t+1", 1, 1);
        inE("1\r+1", 1, 1);
        inE("1\n+\n1", 0, 0);
        inE((char) 233 + "", 1, 0);
        inE((char) 0 + "", 1, 0);
        inE("a2345678", 3, 0);
        inE("a23456789", 1, 0);
        inE("abcdefghi", 1, 0);
        inE("intabcdef", 1, 0);
        inE("1+abcdefghi+1", 1, 2);
        inE("A", 1, 0);
        inE("aA", 1, 1);
        inE("int1", 3, 0);
        inE("integer", 3, 0);
        inE("1===1", 1, 3);
        inE("1=1", 1, 1);
        inE("1! =1", 1, 1);
        inE("1!=1", 0, 0);
        inE("1< =1", 1, 3);
        inE("1<<<1", 1, 3);
        inE("1& &1", 1, 3);
        inE("1&&&1", 1, 3);
        inE("1|||1", 1, 3);
        inE("1^^1", 1, 2);
        inE("1~1", 1, 1);
        inE("1~~1", 1, 1);
        inE("1-~1", 0, 0);
        inE("1+1", 0, 0);
        inE("1++1", 1, 2);
        inE("1--1", 0, 0);
        inE("1<-1", 0, 0);
        inE("1>>-1", 0, 0);
        inE("1>>=1", 1, 3);
        inE("!!!1", 0, 0);
        inE("!=1", 1, 0);
        for (String word : new String[] {"int", "if", "else", "while", "break", "continue", "return"}) {
            inE(word, 1, 0);
            inE("1+" + word, 1, 2);
            inE(word + "1", word.length() < 8 ? 3 : 1, 0);
        }
        Due.sound("int abcdefgh[1];int f(int a1b2c3d4){return a1b2c3d4+abcdefgh[0];}");
        Due.fault("int abcdefghi[1];int f(){}", 1, 4);
        Due.fault("intf(){}", 1, 0);
        Due.fault("int f(){returna;}", 1, 15);
        Due.fault("int f(){return(1);}", 0, -1);
        Due.fault("int f(){} #", 1, 10);
        Due.fault("# int f(){}", 1, 0);
        Due.fault("int f(){)#", 1, 8);
        Due.fault("int a[2147483648];int f(){}", 1, 6);
    }

    private static void grammar() {
        Due.fault("", 1, 0);
        Due.fault("   \n ", 1, 5);
        Due.fault("int", 1, 3);
        Due.fault("int ", 1, 4);
        Due.fault("int f(){}", 0, -1);
        Due.fault("  int f ( ) { }  ", 0, -1);
        Due.fault("int f(){}}", 1, 9);
        Due.fault("int f(){} int g(){}", 1, 10);
        Due.fault("int f(){};", 1, 9);
        Due.fault("int a[1]", 1, 8);
        Due.fault("int a[1];", 1, 9);
        Due.fault("int a[1] int f(){}", 1, 9);
        Due.fault("int a[-1];int f(){}", 1, 6);
        Due.fault("int a[];int f(){}", 1, 6);
        Due.fault("int a[b];int f(){}", 1, 6);
        Due.fault("int a[1+1];int f(){}", 1, 7);
        Due.fault("int a;int f(){}", 1, 5);
        Due.fault("int a=1;int f(){}", 1, 5);
        Due.fault("int f(int){}", 1, 9);
        Due.fault("int f(a){}", 1, 6);
        Due.fault("int f(int a,){}", 1, 12);
        Due.fault("int f(,int a){}", 1, 6);
        Due.fault("int f(int a int b){}", 1, 12);
        Due.fault("int f(int a,b){}", 1, 12);
        Due.fault("int f(int a[2]){}", 1, 11);
        Due.fault("int f();", 1, 7);
        Due.fault("int f()return 1;", 1, 7);
        Due.fault("int f(){return 1;", 1, 17);
        Due.fault("int f(){return 1}", 1, 16);
        Due.fault("int f(){return;}", 1, 14);
        Due.fault("int f(){;}", 1, 8);
        Due.fault("int f(){1;}", 1, 8);
        Due.fault("int f(int a){a;}", 1, 14);
        Due.fault("int f(int a){a=1}", 1, 16);
        Due.fault("int f(int a){a=a=1;}", 1, 16);
        Due.fault("int f(int a){a+1;}", 1, 14);
        Due.fault("int f(int a){(a)=1;}", 1, 13);
        Due.fault("int f(int a){int b;}", 1, 18);
        Due.fault("int f(int a){int b[3];}", 1, 18);
        Due.fault("int f(int a){int b=1,c=2;}", 1, 20);
        Due.fault("int f(int a){else a=1;}", 1, 13);
        Due.fault("int f(int a){if(a)a=1;else a=2;else a=3;}", 1, 31);
        Due.fault("int f(int a){if(a){}{}else{}}", 1, 22);
        Due.fault("int f(int a){if(a)else a=1;}", 1, 18);
        Due.fault("int f(int a){if a)a=1;}", 1, 16);
        Due.fault("int f(int a){if()a=1;}", 1, 16);
        Due.fault("int f(int a){if(a a=1;}", 1, 18);
        Due.fault("int f(int a){while(a)}", 1, 21);
        Due.fault("int f(int a){while(a);}", 1, 21);
        Due.fault("int f(int a){while(1)break}", 1, 26);
        Due.fault("int f(int a){return a[1;}", 1, 23);
        Due.fault("int f(int a){return (a;}", 1, 22);
        Due.fault("int f(int a){return a);}", 1, 21);
        Due.fault("int f(int a){return a];}", 1, 21);
        Due.fault("int f(int a){return (a];}", 1, 22);
        Due.fault("int f(int a){return a[1);}", 1, 23);
        Due.fault("int f(int a){return 1[1];}", 1, 21);
        Due.fault("int f(int a){return (a)[1];}", 1, 23);
        Due.fault("int f(int a){return a[1][1];}", 1, 24);
        Due.fault("int f(int a){return f(1);}", 1, 21);
        Due.fault("int f(int a){return ();}", 1, 21);
        Due.fault("int f(int a){return a+;}", 1, 22);
        Due.fault("int f(int a){return a b;}", 1, 22);
        Due.fault("int f(int a){return a 1;}", 1, 22);
        Due.fault("int f(int a){return +a;}", 1, 20);
        Due.fault("int f(int a){a[1]+1;}", 1, 17);
        Due.fault("int f(int a){a[1;}", 1, 16);
        Due.fault("int f(int a){a[]=1;}", 1, 15);
    }

    /** Of a text that is cut behind each token, the FAULT is at its end; a stray byte is at its own place. */
    private static void everyTokenEverywhere() {
        String text = "int m [ 3 ] ; int f ( int a , int b ) { int c = - a ; m [ c ] = ! ( b + 1 ) * 2 ; "
            + "while ( a < 1 ) { if ( b ) break ; else continue ; } return m [ 0 ] ; }";
        for (int i = 0; i < text.length(); i++) {
            if (text.charAt(i) == ' ') {
                Due.fault(text.substring(0, i), 1, i);
                Due.fault(text.substring(0, i) + "#" + text.substring(i), 1, i);
                Due.fault(text.substring(0, i) + " 3x" + text.substring(i), 1, i + 1);
            }
        }
        Due.sound(text);
        Due.sound(text.replace(' ', '\n'));
    }

    private static void deep() {
        // The function's { is one: 15 more can stand in it.
        inE(Due.times(15, "(") + "1" + Due.times(15, ")"), 0, 0);
        inE(Due.times(16, "(") + "1" + Due.times(16, ")"), 7, 15);
        inE(Due.times(20, "("), 7, 15);
        inE(Due.times(15, "(") + ")", 1, 15);
        inE(Due.times(15, "-") + "1", 0, 0);
        inE(Due.times(16, "-") + "1", 7, 15);
        inE(Due.times(15, "!") + "~1", 7, 15);
        inE(Due.times(15, "~") + "(1)", 7, 15);
        inE(Due.times(15, "~") + "1-1-1-1", 0, 0);
        inE(Due.times(15, "(") + "1-1-1" + Due.times(15, ")") + "-1", 0, 0);
        inE(Due.times(15, "(") + "1--1" + Due.times(15, ")"), 7, 17);
        inE("-1" + Due.times(30, "+-1"), 0, 0);
        inE("(1)" + Due.times(30, "+(1)"), 0, 0);
        inE(Due.times(14, "-") + "(1)-" + Due.times(14, "-") + "(1)", 0, 0);
        String a = "int a[2];int f(int b){return ";
        Due.sound(a + Due.times(15, "a[") + "1" + Due.times(15, "]") + ";}");
        Due.fault(a + Due.times(16, "a[") + "1" + Due.times(16, "]") + ";}", 7, a.length() + 31);
        Due.sound(a + Due.times(14, "-") + "a[1]+" + Due.times(14, "!") + "a[1];}");
        Due.fault(a + Due.times(15, "-") + "a[1];}", 7, a.length() + 16);
        Due.fault(a + Due.times(15, "-") + "b;}", 0, -1);
        String f = "int f(int b){";
        int at = f.length();
        Due.sound(f + Due.times(15, "{") + Due.times(15, "}") + "}");
        Due.sound(f + Due.times(15, "{") + "b=1;" + Due.times(15, "}") + "}");
        Due.fault(f + Due.times(16, "{") + Due.times(16, "}") + "}", 7, at + 15);
        Due.fault(f + Due.times(15, "{") + "b=(1);" + Due.times(15, "}") + "}", 7, at + 17);
        // An if is open till the end of its STATEMENT; its ( stands within it.
        Due.sound(f + Due.times(14, "if(b)") + "b=1;}");
        Due.fault(f + Due.times(15, "if(b)") + "b=1;}", 7, at + 72);
        Due.fault(f + Due.times(14, "if(b)") + "b=-(1);}", 7, at + 73);
        Due.sound(f + Due.times(14, "if(b)") + "b=-1;}");
        Due.sound(f + Due.times(14, "while(b)") + "b=1;}");
        Due.fault(f + Due.times(15, "while(b)") + "b=1;}", 7, at + 117);
        Due.fault(f + Due.times(14, "if(b)") + "while(b)b=1;}", 7, at + 75);
        Due.fault(f + Due.times(15, "{") + "if", 7, at + 15);
        Due.fault(f + Due.times(15, "{") + "while", 7, at + 15);
        Due.sound(f + Due.times(14, "if(b)b=1;else ") + "b=1;}");
        Due.fault(f + Due.times(15, "if(b)b=1;else ") + "b=1;}", 7, at + 14 * 14 + 2);
        Due.sound(f + Due.times(14, "if(b)") + "b=1;" + Due.times(14, "else b=2;") + Due.times(14, "if(b)") + "b=1;}");
        Due.sound(f + Due.times(30, "if(b)b=1;") + "}");
        Due.sound(f + Due.times(13, "if(b){}else ") + "if(b)b=1;if(b)b=1;}");
    }

    private static void toldTwice() {
        Due.fault("int a[1];int a[1];int f(){}", 2, 13);
        Due.fault("int a[1];int a(){}", 2, 13);
        Due.fault("int f(int f){}", 2, 10);
        Due.fault("int a[1];int f(int a){}", 2, 19);
        Due.fault("int f(int a,int a){}", 2, 16);
        Due.fault("int f(int a){int a=1;}", 2, 17);
        Due.fault("int f(int a){int f=1;}", 2, 17);
        Due.fault("int a[1];int f(){int a=1;}", 2, 21);
        Due.fault("int f(){int a=1;int a=1;}", 2, 20);
        Due.fault("int f(){int a=1;{int a=1;}}", 2, 21);
        Due.fault("int f(){int a=1;if(a)int a=1;}", 2, 25);
        Due.fault("int f(){int a=1;while(a)while(a)int a=1;}", 2, 36);
        Due.fault("int f(int b){{int a=1;{{int a=2;}}}}", 2, 28);
        Due.sound("int f(){{int a=1;}int a=1;}");
        Due.sound("int f(){{int a=1;}{int a=1;}}");
        Due.sound("int f(){while(0)int a=1;int a=1;}");
        Due.sound("int f(){if(0)int a=1;else int a=2;int a=3;return a;}");
        Due.sound("int f(){if(0)if(1)int a=1;else int a=2;else int a=3;}");
        Due.sound("int f(){if(0){int a=1;{int b=a;}int b=2;}else{int b=2;int a=b;}}");
    }

    private static void unknown() {
        Due.fault("int f(){return a;}", 3, 15);
        Due.fault("int f(){return a[1];}", 3, 15);
        Due.fault("int f(){a=1;}", 3, 8);
        Due.fault("int f(){a[0]=1;}", 3, 8);
        Due.fault("int f(){int a=a;}", 3, 14);
        Due.fault("int f(){int a=1+a;}", 3, 16);
        Due.fault("int f(){{int a=1;}a=1;}", 3, 18);
        Due.fault("int f(){if(1)int a=1;a=1;}", 3, 21);
        Due.fault("int f(){if(1)int a=1;else a=1;}", 3, 26);
        Due.fault("int f(){while(1)int a=1;return a;}", 3, 31);
        Due.fault("int f(){while(a)int a=1;}", 3, 14);
        Due.fault("int f(){a=1;int a=1;}", 3, 8);
        Due.fault("int f(){return 1;a=1;}", 3, 17);
        Due.fault("int a[2];int f(){a[b]=c;}", 3, 19);
        Due.fault("int a[2];int f(){return a[a[b]];}", 3, 28);
        Due.sound("int f(){int a=1;int b=a;return b;}");
        Due.sound("int f(){int a=1;{a=2;{a=3;if(a)a=4;}}}");
    }

    private static void misused() {
        String two = "int m[2];int f(int a){";
        int at = two.length();
        Due.fault(two + "a[1]=1;}", 4, at);
        Due.fault(two + "m=1;}", 4, at);
        Due.fault(two + "f=1;}", 4, at);
        Due.fault(two + "f[1]=1;}", 4, at);
        Due.fault(two + "return a[1];}", 4, at + 7);
        Due.fault(two + "return m;}", 4, at + 7);
        Due.fault(two + "return m+m[1];}", 4, at + 7);
        Due.fault(two + "return f;}", 4, at + 7);
        Due.fault(two + "return f[0];}", 4, at + 7);
        Due.fault(two + "int b=1;b[0]=1;}", 4, at + 8);
        Due.fault(two + "m[m]=1;}", 4, at + 2);
        Due.fault(two + "m[a]=a[m];}", 4, at + 5);
        Due.sound(two + "m[a]=m[m[a]]+a;}");
    }

    private static void stray() {
        Due.fault("int f(){break;}", 5, 8);
        Due.fault("int f(){continue;}", 5, 8);
        Due.fault("int f(int a){if(a)break;}", 5, 18);
        Due.fault("int f(int a){while(a){}continue;}", 5, 23);
        Due.fault("int f(int a){while(a)a=0;break;}", 5, 25);
        Due.sound("int f(int a){while(a)break;}");
        Due.sound("int f(int a){while(a)if(a){break;}else{{continue;}}}");
        Due.sound("int f(int a){while(a){while(a){}break;}}");
    }

    private static String many(int n, String before, String behind) {
        StringBuilder text = new StringBuilder();
        for (int i = 0; i < n; i++) {
            text.append(before).append((char) ('a' + i / 10)).append(i % 10).append(behind);
        }
        return text.toString();
    }

    private static void roomForNames() {
        Due.fault("int a[0];int f(){}", 6, 6);
        Due.sound("int a[1];int f(){}");
        Due.sound("int a[256];int f(){}");
        Due.sound("int a[000256];int f(){}");
        Due.fault("int a[257];int f(){}", 6, 6);
        Due.fault("int a[2147483647];int f(){}", 6, 6);
        Due.sound(many(8, "int ", "[1];") + "int f(){}");
        Due.fault(many(9, "int ", "[1];") + "int f(){}", 6, 8 * 10 + 4);
        Due.fault(many(30, "int ", "[1];") + "int f(){}", 6, 8 * 10 + 4);
        Due.sound("int f(" + many(4, ",int ", "").substring(1) + "){}");
        Due.fault("int f(" + many(5, ",int ", "").substring(1) + "){}", 6, 6 + 4 * 7 + 4);
        Due.fault("int f(" + many(40, ",int ", "").substring(1) + "){}", 6, 6 + 4 * 7 + 4);
        Due.sound("int f(){" + many(16, "int ", "=1;") + "}");
        Due.fault("int f(){" + many(17, "int ", "=1;") + "}", 6, 8 + 16 * 9 + 4);
        Due.fault("int f(){" + many(99, "int ", "=1;") + "}", 6, 8 + 16 * 9 + 4);
        Due.sound("int f(int x,int y){" + many(14, "int ", "=1;") + "}");
        Due.fault("int f(int x,int y){" + many(15, "int ", "=1;") + "}", 6, 19 + 14 * 9 + 4);
        Due.sound("int f(){" + Due.times(16, "{int a=1;}") + "}");
        Due.fault("int f(){" + Due.times(17, "{int a=1;}") + "}", 6, 8 + 16 * 10 + 5);
        Due.sound(many(8, "int ", "[1];") + "int f(int x,int y,int z,int w){" + many(22, "int ", "=1;").substring(90) + "return c1+w+a7[0];}");
        Due.fault("int f(){return 1;" + many(17, "int ", "=1;") + "}", 6, 17 + 16 * 9 + 4);
    }

    private static void roomForParts() {
        Due.sound("int f(){" + Due.times(40, "if(1){}") + "}");
        Due.fault("int f(){" + Due.times(41, "if(1){}") + "}", 6, 8 + 280);
        Due.fault("int f(){" + Due.times(41, "while(1){}") + "}", 6, 8 + 400);
        Due.sound("int f(){" + Due.times(20, "if(1)while(1){}") + "}");
        Due.fault("int f(){" + Due.times(20, "if(1)while(1){}") + "while(0)if(1){}}", 6, 8 + 300);
        Due.fault("int f(){" + Due.times(100, "if(1){}") + "}", 6, 8 + 280);
        // 200 NUMBERS and 199 signs are 399; then the 400th, and the 401st.
        String e = "1" + Due.times(199, "+1");
        inE("-" + e, 0, 0);
        inE("-" + e + "+1", 6, 400);
        inE("--" + e, 6, 400);
        inE(e + "+1", 6, 400);
        inE(e + "*1*1*1", 6, 400);
        inE("(((" + e + ")))", 0, 0);
        String a = "int m[2];int f(int a){";
        int at = a.length();
        // What is set counts not, what stands in its [ ] does; nor does the NUMBER of cells.
        Due.sound(a + Due.times(400, "a=a;") + "}");
        Due.fault(a + Due.times(400, "a=a;") + "a=7;}", 6, at + 1600 + 2);
        Due.sound(a + Due.times(200, "m[1]=a;") + "}");
        Due.fault(a + Due.times(200, "m[1]=a;") + "m[1]=a;}", 6, at + 1400 + 2);
        Due.sound(a + Due.times(100, "a=m[-a];a=1;") + "}");
        Due.fault(a + Due.times(100, "a=m[-a];a=1;") + "a=m[a];}", 6, at + 1200 + 2);
        Due.sound(a + Due.times(199, "a=!a;") + "if(a)while(a)break;}");
        Due.fault(a + Due.times(199, "a=!a;") + "if(a)while(a)return 1;}", 6, at + 995 + 20);
        Due.fault(a + Due.times(480, "a=a;") + "}", 6, at + 1600 + 2);
        // The largest circuits: no room is wanting.
        Due.sound("int f(){while(1){" + Due.times(300, "break;") + "}}");
        Due.sound("int f(){while(1){" + Due.times(200, "continue;") + "}}");
        Due.sound("int f(int a){" + Due.times(40, "if(1)a=1;else a=2;") + Due.times(280, "a=1;") + "}");
    }

    /** Kinds 1 and 7 go ahead of all others; of those the first along the text, then the least. */
    private static void theFirst() {
        Due.fault("int f(){a=1;b=1}", 1, 15);
        Due.fault("int a[0];int a[0];int f(){break;a=1;", 1, 36);
        Due.fault("int f(){break;a=1;}", 5, 8);
        Due.fault("int f(){a=1;break;}", 3, 8);
        Due.fault("int f(){return x" + Due.times(17, "+-1") + "+" + Due.times(16, "-") + "1;}", 7, 15 + 1 + 51 + 1 + 15);
        Due.fault("int f(){return " + Due.times(16, "(") + "#", 7, 30);
        Due.fault("int f(){return # " + Due.times(16, "("), 1, 15);
        Due.fault("int a[0];int a[1];int f(){}", 6, 6);
        Due.fault(many(8, "int ", "[1];") + "int a0[0];int f(){}", 2, 84);
        Due.fault(many(8, "int ", "[1];") + "int b0[0];int f(){}", 6, 84);
        Due.fault("int f(" + many(4, ",int ", "").substring(1) + ",int a0){}", 2, 6 + 4 * 7 + 4);
        Due.fault("int f(){" + many(16, "int ", "=1;") + "int a0=1;}", 2, 8 + 16 * 9 + 4);
        String full = "int m[1];int f(int a){" + Due.times(400, "a=1;");
        Due.fault(full + "a=b;}", 3, full.length() + 2);
        Due.fault(full + "a=m;}", 4, full.length() + 2);
        Due.fault(full + "a=f;}", 4, full.length() + 2);
        Due.fault(full + "a=1+b;}", 6, full.length() + 2);
        Due.fault(full + "b=1;}", 3, full.length());
        Due.fault("int f(){int a=b;int a=1;}", 3, 14);
        Due.fault("int m[2];int f(){m[x]=m;}", 3, 19);
        Due.fault("int m[2];int f(){m=x;}", 4, 17);
        Due.fault("int f(){x=1;{int x=1;int x=2;}}", 3, 8);
    }
}
