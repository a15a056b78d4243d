/** Promise 3: build. */
public final class BuildTest {
    private BuildTest() {
    }

    public static void main(String[] args) {
        notSoMany();
        onlyTheFirstBytes();
        faultKeepsAllElse();
        successBeginsAnew();
        manyPrograms();
        nothingStaysOfEarlierTexts();
        Due.end();
    }

    private static void notSoMany() {
        TokenCircuit x = new TokenCircuit();
        Due.is("build(-1) without bytes", x.build(-1), -2);
        Due.is("build(1) without bytes", x.build(1), -2);
        Due.is("fault(0) behind -2", x.fault(0), 0);
        Due.feed(x, "int f(){return 7;} !");
        for (int n : new int[] {-1, Integer.MIN_VALUE, 21, 2000, 2001, Integer.MAX_VALUE}) {
            Due.is("build(" + n + ") of 20 bytes", x.build(n), -2);
            Due.is("bytes behind build(" + n + ")", x.count(0), 20);
            Due.is("a program behind build(" + n + ")", x.count(1), 0);
        }
        Due.is("build(20)", x.build(20), -1);
        Due.is("place", x.fault(1), 19);
        Due.is("bytes behind a fault", x.count(0), 0);
        Due.is("build(20) again", x.build(20), -2);
        Due.is("the fault stays behind -2", x.fault(1), 19);
        Due.is("the kind stays behind -2", x.fault(0), 1);
        Due.is("build(0)", x.build(0), -1);
        Due.is("kind of the fault of nothing", x.fault(0), 1);
        Due.is("place of the fault of nothing", x.fault(1), 0);
    }

    private static void onlyTheFirstBytes() {
        TokenCircuit x = new TokenCircuit();
        Due.feed(x, "int f(){return 7;} !");
        Due.is("build(18)", x.build(18), 0);
        Due.is("the tape is empty", x.count(0), 0);
        Due.result(x, "first 18 bytes", 7);
        Due.feed(x, "int f(){return 7;} !");
        Due.is("build(17)", x.build(17), -1);
        Due.is("place is the text's length", x.fault(1), 17);
        Due.is("the tape is empty behind a fault", x.count(0), 0);
        Due.feed(x, "int f(){return 8;}  ");
        Due.is("build(0) of 20 bytes", x.build(0), -1);
        Due.is("the tape is empty behind build(0)", x.count(0), 0);
    }

    private static void faultKeepsAllElse() {
        TokenCircuit x = Due.made("int m[3];int f(int a){m[1]=a;if(a)return a+m[2];return 3;}");
        x.give(0, 9);
        x.poke(0, 2, 4);
        x.latency(5);
        x.stall(77);
        Due.is("run", x.run(9), 0);
        for (String text : new String[] {"int m[0];int f(){}", "int f(", "", "int q[9];int r[8];int f(int x){return y;}"}) {
            Due.is("build of " + text, Due.build(x, text), -1);
            Due.is("arrays", x.count(2), 1);
            Due.is("parameters", x.count(3), 1);
            Due.is("variables", x.count(4), 1);
            Due.is("ifs", x.count(5), 1);
            Due.is("rows", x.count(6), 1);
            Due.is("size", x.size(0), 3);
            Due.is("size of none", x.size(1), -1);
            Due.is("cell 1", x.cell(0, 1), 9);
            Due.is("cell 2", x.cell(0, 2), 4);
            Due.is("told 0", x.told(0), 0);
            Due.is("told 1", x.told(1), 13);
            Due.is("told 2", x.told(2), 2);
            Due.is("told 3", x.told(3), 1);
            Due.is("told 4", x.told(4), 1);
            Due.is("told 5", x.told(5), 1);
            Due.is("write", x.write(0, 2), 9);
        }
        Due.is("run of the program of before", x.run(9), 0);
        Due.is("its result", x.told(1), 13);
        Due.is("the parameter stays", x.give(0, 1), 9);
        Due.is("STALL stays", x.stall(0), 77);
    }

    private static void successBeginsAnew() {
        TokenCircuit x = Due.made("int m[3];int f(int a){m[1]=a;return a+m[2];}");
        x.give(0, 9);
        x.poke(0, 2, 4);
        x.latency(5);
        x.stall(77);
        x.run(9);
        Due.is("build", Due.build(x, "int u[4];int v[2];int f(int a,int b){u[3]=1;v[a]=b;while(a<0)a=0;return u[0]+v[1];}"), 0);
        Due.is("told 0", x.told(0), -1);
        for (int what = 1; what <= 5; what++) {
            Due.is("told " + what, x.told(what), 0);
        }
        Due.none("no write", () -> x.write(0, 0));
        for (int i = 0; i < 4; i++) {
            Due.is("cell " + i, x.cell(0, i), 0);
        }
        Due.is("arrays", x.count(2), 2);
        Due.is("parameters", x.count(3), 2);
        Due.is("rows stay", x.count(6), 1);
        Due.is("fault(0)", x.fault(0), 0);
        Due.is("fault(1)", x.fault(1), -1);
        Due.is("parameter 0", x.give(0, 1), 0);
        Due.is("parameter 1", x.give(1, 6), 0);
        Due.is("STALL stays", x.stall(0), 77);
        Due.result(x, "the new program", 6);
        Due.is("the same again", Due.build(x, "int u[4];int v[2];int f(int a,int b){return u[3]+v[1];}"), 0);
        Due.is("cells are 0 again", x.cell(1, 1), 0);
        Due.result(x, "cells of 0", 0);
    }

    private static void manyPrograms() {
        TokenCircuit x = new TokenCircuit();
        for (int i = 0; i < 60; i++) {
            Due.is("build " + i, Due.build(x, "int f(){return " + i + ";}"), 0);
            Due.is("a fault between " + i, Due.build(x, "int f(){return " + i + "}"), -1);
            Due.result(x, "program " + i, i);
        }
    }

    /** What an earlier text counted or told, with a FAULT or without, is none of the next one's. */
    private static void nothingStaysOfEarlierTexts() {
        TokenCircuit x = new TokenCircuit();
        String worked = "int f(int a){return 1" + "+1".repeat(199) + ";}";
        String branching = "int f(int a){" + "if(a)a=a-1;else a=a+2;".repeat(40) + "return a;}";
        String told = "int f(int p,int q,int r,int s){" + "{int a=1;}".repeat(12) + "}";
        String arrays = "int a[1];int b[1];int c[1];int d[1];int e[1];int g[1];int h[1];int i[1];int f(){}";
        String open = "int f(){" + "{".repeat(15) + "while(1)if(";
        for (int i = 0; i < 3; i++) {
            Due.is("a text that ends too soon", Due.build(x, open), -1);
            Due.is("its kind", x.fault(0), 7);
            Due.is("399 that are worked", Due.build(x, worked), 0);
            Due.result(x, "399 that are worked", 200, 0);
            Due.is("an ARRAY a", Due.build(x, arrays), 0);
            Due.is("40 ifs", Due.build(x, branching), 0);
            Due.result(x, "40 ifs", 0, 40);
            Due.is("STEPS of 40 ifs", x.told(2), 81);
            Due.is("16 variables", Due.build(x, told), 0);
            Due.is("a break out of sight", Due.build(x, "int f(){while(1){break;"), -1);
            Due.is("a break in no while", Due.build(x, "int f(){break;}"), -1);
            Due.is("its kind", x.fault(0), 5);
            Due.is("a FAULT of meaning", Due.build(x, "int f(){int a=a;}"), -1);
            Due.is("none of it stays", Due.build(x, "int a(int f){int b=f;return b;}"), 0);
            Due.result(x, "none of it stays", i, i);
        }
    }
}
