/** Terms 2: where STEPS begin, and what is done of a RUN that is UNENDED. */
public final class StepsTest {
    private StepsTest() {
    }

    public static void main(String[] args) {
        steps("int f(int a){return 1;}", 1, 0);
        steps("int f(int a){}", 1, 0);
        steps("int f(int a){{}{{}}int b=1;a=b;}", 1, 0);
        ifs();
        whiles();
        unended();
        Due.end();
    }

    /** A RUN that ends has so many STEPS; with each smaller LIMIT it is UNENDED behind just as many. */
    private static void steps(String text, int want, int given) {
        TokenCircuit x = Due.made(text);
        if (x.count(3) > 0) {
            x.give(0, given);
        }
        Due.is("run of " + text, x.run(3000), 0);
        Due.is("STEPS of " + text + " with " + given, x.told(2), want);
        for (int limit = 1; limit < want; limit++) {
            Due.is("run(" + limit + ") of " + text, x.run(limit), 1);
            Due.is("STEPS of it", x.told(2), limit);
            Due.is("result of it", x.told(1), 0);
            Due.is("delivered of it", x.told(5), 0);
        }
        Due.is("run(" + want + ") of " + text, x.run(want), 0);
    }

    private static void ifs() {
        steps("int f(int a){if(a)a=2;return a;}", 3, 1);
        steps("int f(int a){if(a)a=2;return a;}", 2, 0);
        steps("int f(int a){if(a)a=2;}", 3, 1);
        steps("int f(int a){if(a){}}", 3, 1);
        steps("int f(int a){if(a){}}", 2, 0);
        steps("int f(int a){if(a)return 1;return 2;}", 2, 1);
        steps("int f(int a){if(a)return 1;return 2;}", 2, 0);
        steps("int f(int a){if(a)return 1;else return 2;}", 2, 0);
        steps("int f(int a){if(a)return 1;else return 2;a=3;if(a)a=4;}", 2, 1);
        steps("int f(int a){if(a)a=1;else a=2;}", 3, 1);
        steps("int f(int a){if(a)a=1;else a=2;}", 3, 0);
        steps("int f(int a){if(a)return 1;else a=2;}", 3, 0);
        steps("int f(int a){if(a)a=1;else return 2;}", 3, 1);
        steps("int f(int a){if(a)a=1;else return 2;}", 2, 0);
        steps("int f(int a){if(a)if(a)a=1;}", 5, 1);
        steps("int f(int a){if(a)if(0)a=1;}", 4, 1);
        steps("int f(int a){if(a)if(0)a=1;else a=2;else a=3;}", 5, 1);
        steps("int f(int a){if(a)a=1;else if(a)a=1;else a=3;}", 5, 0);
        steps("int f(int a){if(a)a=2;if(a)a=3;}", 5, 1);
    }

    private static void whiles() {
        steps("int f(int a){while(a)a=a-1;}", 3, 0);
        steps("int f(int a){while(a)a=a-1;}", 5, 1);
        steps("int f(int a){while(a)a=a-1;}", 23, 10);
        steps("int f(int a){while(1)break;}", 4, 0);
        steps("int f(int a){while(1)return 2;}", 3, 0);
        steps("int f(int a){while(a){a=a-1;continue;}}", 9, 3);
        steps("int f(int a){while(a){a=a-1;if(a)continue;a=0;}}", 9, 2);
        steps("int f(int a){while(a){a=a-1;if(a)break;}return a;}", 5, 2);
        steps("int f(int a){while(a){a=a-1;if(a)break;}return a;}", 6, 1);
        steps("int f(int a){while(a){a=a-1;if(a){break;}else{continue;}a=9;}}", 6, 1);
        steps("int f(int a){while(1){while(1)break;break;}}", 7, 0);
        steps("int f(int a){while(a){a=a-1;while(0){}}}", 11, 2);
        steps("int f(int a){if(a)while(0){}}", 5, 1);
    }

    /** All of the STEPS up to the LIMIT is done, nothing of the next one. */
    private static void unended() {
        TokenCircuit x = Due.made("int m[9];int f(){m[0]=1;if(m[1]==0)m[2]=1;m[3]=1;while(m[4]==0){m[4]=1;}m[5]=1;}");
        int[] writes = {1, 2, 3, 3, 4, 4, 5};
        int[] reads = {1, 1, 1, 2, 2, 3, 3};
        for (int limit = 1; limit <= 7; limit++) {
            Due.build(x, "int m[9];int f(){m[0]=1;if(m[1]==0)m[2]=1;m[3]=1;while(m[4]==0){m[4]=1;}m[5]=1;}");
            Due.is("run(" + limit + ")", x.run(limit), limit == 7 ? 0 : 1);
            Due.is("STEPS of run(" + limit + ")", x.told(2), limit);
            Due.is("reads of run(" + limit + ")", x.told(3), reads[limit - 1]);
            Due.is("writes of run(" + limit + ")", x.told(4), writes[limit - 1]);
            Due.is("told(0) of run(" + limit + ")", x.told(0), limit == 7 ? 0 : 1);
            Due.is("told(5) of run(" + limit + ")", x.told(5), limit == 7 ? 1 : 0);
        }
    }
}
