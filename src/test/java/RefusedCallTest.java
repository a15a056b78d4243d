import java.util.ArrayList;
import java.util.EnumSet;
import java.util.List;
import java.util.function.Consumer;
import java.util.function.ToLongFunction;

/**
 * Each call that is refused, in each of many states: what it answers or throws, and that nothing
 * else has changed. With them the calls that only tell, builds with a FAULT, and calls that are
 * taken, which change what the document says and nothing else.
 */
public final class RefusedCallTest {
    private static final int LEAST = Integer.MIN_VALUE;
    private static final int MOST = Integer.MAX_VALUE;
    private static final String PROGRAM = "int m[3];int q[256];int f(int a,int b){m[a]=b;q[b]=m[a]+1;int i=0;"
        + "while(i<a){q[i]=i;i=i+1;}if(b)i=m[2];else b=1;return q[b]*10+m[0]+i;}";
    private static final String FED = "int f(){return 7;}  ";

    private final Story story;
    private int bytes;
    private boolean built;
    private int[] sizes = {};
    private int parameters;
    private int writes;
    private int rows;

    private RefusedCallTest(Story story) {
        this.story = story;
    }

    public static void main(String[] args) {
        List<RefusedCallTest> states = states();
        for (RefusedCallTest state : states) {
            state.isAsTold();
        }
        each(states, "feed: NONE, and nothing is done, if there would be more than 2,000.", RefusedCallTest::feed);
        each(states, "build: -2, and nothing is done, if there are not so many, or n is below 0.", RefusedCallTest::build);
        each(states, "build: NONE with a FAULT (the PROGRAM of before stays, all else too).", RefusedCallTest::buildWithFault);
        each(states, "fault: NONE for another what.", RefusedCallTest::fault);
        each(states, "give: NoSuchElementException: there is none such.", RefusedCallTest::give);
        each(states, "poke, cell: NoSuchElementException: there is none such.", RefusedCallTest::cells);
        each(states, "latency: NONE, and nothing is done, if n is not 1 to 64, or there are 32.", RefusedCallTest::latency);
        each(states, "run: NONE, and nothing is done, if there is no PROGRAM, or limit is not 1 to 3000.", RefusedCallTest::run);
        each(states, "told: NONE for another what.", RefusedCallTest::told);
        each(states, "write: NONE for another what. NoSuchElementException: there is none such.", RefusedCallTest::write);
        each(states, "count: NONE for another what.", RefusedCallTest::count);
        each(states, "size: NONE if there is none such.", RefusedCallTest::size);
        each(states, "A call that throws changes nothing but the tape, as told.", RefusedCallTest::throwingCalls);
        each(states, "Nothing is promised beyond the answers and state changes described above", RefusedCallTest::tellingCalls);
        takenCalls();
        Due.end();
    }

    private static void each(List<RefusedCallTest> states, String sentence, Consumer<RefusedCallTest> test) {
        Due.sentence(sentence);
        for (RefusedCallTest state : states) {
            test.accept(state);
        }
    }

    private RefusedCallTest with(int ofBytes, int ofRows) {
        bytes = ofBytes;
        rows = ofRows;
        return this;
    }

    private RefusedCallTest program(int ofParameters, int ofWrites, int... ofSizes) {
        built = true;
        parameters = ofParameters;
        writes = ofWrites;
        sizes = ofSizes;
        return this;
    }

    private static Story worked(String name, int limit) {
        return new Story(name).then(x -> Due.build(x, PROGRAM)).then(x -> x.give(0, 2)).then(x -> x.give(1, 5))
            .then(x -> x.poke(0, 0, 7)).then(x -> x.poke(1, 255, -3)).then(x -> x.latency(5)).then(x -> x.latency(64))
            .then(x -> x.stall(6)).then(x -> x.run(limit));
    }

    private static Story most() {
        StringBuilder text = new StringBuilder();
        for (int a = 0; a < 8; a++) {
            text.append("int a").append(a).append('[').append(a == 7 ? 256 : a + 1).append("];");
        }
        text.append("int f(int p,int q,int r,int s){int i=0;while(i<p){a7[i]=i*q+r;a2[i]=s;i=i+1;}return a7[3];}");
        Story story = new Story("most of all").then(x -> Due.build(x, text.toString()));
        for (int i = 0; i < 4; i++) {
            int which = i;
            story.then(x -> x.give(which, which == 0 ? 120 : which));
        }
        for (int i = 0; i < 32; i++) {
            int row = i;
            story.then(x -> x.latency(64 - row));
        }
        return story.then(x -> x.stall(Long.MAX_VALUE)).then(x -> x.run(3000)).then(x -> Due.feed(x, full()));
    }

    private static String full() {
        return "int f(int a){return a+" + " ".repeat(2000 - 25) + "3;}";
    }

    private static List<RefusedCallTest> states() {
        List<RefusedCallTest> states = new ArrayList<>();
        states.add(new RefusedCallTest(new Story("new")));
        states.add(new RefusedCallTest(new Story("fed").then(x -> Due.feed(x, FED))).with(20, 0));
        states.add(new RefusedCallTest(new Story("full tape").then(x -> Due.feed(x, full()))).with(2000, 0));
        states.add(new RefusedCallTest(new Story("a FAULT and no PROGRAM").then(x -> Due.build(x, "int f(){return x;}"))));
        Story rows = new Story("32 rows");
        for (int i = 1; i <= 32; i++) {
            int row = i;
            rows.then(x -> x.latency(row));
        }
        states.add(new RefusedCallTest(rows).with(0, 32));
        states.add(new RefusedCallTest(new Story("no names").then(x -> Due.build(x, "int f(){}"))).program(0, 0));
        states.add(new RefusedCallTest(worked("worked", 3000)).with(0, 2).program(2, 4, 3, 256));
        states.add(new RefusedCallTest(worked("worked and fed", 3000).then(x -> Due.feed(x, FED)))
            .with(20, 2).program(2, 4, 3, 256));
        states.add(new RefusedCallTest(worked("UNENDED", 3)).with(0, 2).program(2, 3, 3, 256));
        states.add(new RefusedCallTest(worked("a FAULT behind a RUN", 3000).then(x -> Due.build(x, "int f(){break;}")))
            .with(0, 2).program(2, 4, 3, 256));
        states.add(new RefusedCallTest(worked("built anew", 3000).then(x -> Due.build(x, "int m[2];int f(int a){m[1]=a;}")))
            .with(0, 2).program(1, 0, 2));
        states.add(new RefusedCallTest(most()).with(2000, 32).program(4, 240, 1, 2, 3, 4, 5, 6, 7, 256));
        return states;
    }

    private void refused(String call, ToLongFunction<TokenCircuit> made, int want) {
        story.changesNothing(call, made, Integer.toString(want));
    }

    private void none(String call, ToLongFunction<TokenCircuit> made) {
        story.changesNothing(call, made, Due.THROWS);
    }

    /** The states are those that they should be: else what follows would be no edge. */
    private void isAsTold() {
        TokenCircuit x = story.object();
        Due.is(story.name + " bytes", x.count(0), bytes);
        Due.is(story.name + " built", x.count(1), built ? 1 : 0);
        Due.is(story.name + " arrays", x.count(2), sizes.length);
        Due.is(story.name + " parameters", x.count(3), parameters);
        Due.is(story.name + " rows", x.count(6), rows);
        Due.is(story.name + " writes", x.told(4), writes);
    }

    private void feed() {
        if (bytes == 2000) {
            refused("feed on a full tape", x -> x.feed(1768846368, 2, -3, LEAST, MOST), -1);
        }
    }

    private void build() {
        for (int n : new int[] {-1, -2, LEAST, bytes + 1, bytes + 20, 2001, MOST}) {
            refused("build(" + n + ")", x -> x.build(n), -2);
        }
    }

    /** The tape is empty then, the FAULT is told, and all else stays. */
    private void buildWithFault() {
        String[] texts = {"int f(){return 1", "int a(int a){}", "int f(){x=1;}", "int f(){f=1;}", "int f(){break;}",
            "int a[0];int f(){}", "int f(){" + "{".repeat(16)};
        int[] places = {16, 10, 8, 8, 8, 6, 23};
        // What is on the tape would stand ahead of these texts.
        for (int kind = 1; kind <= 7 && bytes == 0; kind++) {
            String what = story.name + ", FAULT " + kind;
            for (Story.Look look : Story.Look.values()) {
                TokenCircuit x = story.object();
                Due.is(what, Due.build(x, texts[kind - 1]), -1);
                String now = Story.at(x, look);
                if (look == Story.Look.FAULT) {
                    Due.is(what, now, kind + " at " + places[kind - 1]);
                } else if (look == Story.Look.TAPE) {
                    Due.is(what, now, "0 bytes, build -1 1 at 0");
                } else {
                    Due.is(what + " " + look, now, Story.at(story.object(), look));
                }
            }
        }
    }

    private void fault() {
        for (int what : new int[] {-1, 2, LEAST, MOST}) {
            refused("fault(" + what + ")", x -> x.fault(what), -1);
        }
    }

    private void give() {
        for (int i : new int[] {-1, parameters, parameters + 1, 4, 16, LEAST, MOST}) {
            none("give(" + i + ", 9)", x -> x.give(i, 9));
        }
    }

    private void cells() {
        for (int a : new int[] {-1, sizes.length, sizes.length + 1, 8, LEAST, MOST}) {
            for (int i : new int[] {0, -1, MOST}) {
                noCell(a, i);
            }
        }
        for (int a = 0; a < sizes.length; a++) {
            for (int i : new int[] {-1, sizes[a], sizes[a] + 1, 256, LEAST, MOST}) {
                noCell(a, i);
            }
        }
    }

    private void noCell(int a, int i) {
        none("cell(" + a + ", " + i + ")", x -> x.cell(a, i));
        none("poke(" + a + ", " + i + ", 9)", x -> x.poke(a, i, 9));
    }

    private void latency() {
        for (int n : new int[] {0, -1, 65, LEAST, MOST}) {
            refused("latency(" + n + ")", x -> x.latency(n), -1);
        }
        if (rows == 32) {
            refused("latency(1) with 32 rows", x -> x.latency(1), -1);
            refused("latency(64) with 32 rows", x -> x.latency(64), -1);
        }
    }

    private void run() {
        for (int limit : new int[] {0, -1, 3001, LEAST, MOST}) {
            refused("run(" + limit + ")", x -> x.run(limit), -1);
        }
        if (!built) {
            refused("run(1) without a PROGRAM", x -> x.run(1), -1);
            refused("run(3000) without a PROGRAM", x -> x.run(3000), -1);
        }
    }

    private void told() {
        for (int what : new int[] {-1, 6, LEAST, MOST}) {
            refused("told(" + what + ")", x -> x.told(what), -1);
        }
    }

    private void write() {
        for (int i : new int[] {-1, Math.min(writes, 200), 200, 201, LEAST, MOST}) {
            for (int what : new int[] {0, 1, 2}) {
                none("write(" + i + ", " + what + ")", x -> x.write(i, what));
            }
        }
        int last = Math.min(writes, 200) - 1;
        for (int what : new int[] {-1, 3, LEAST, MOST}) {
            if (writes > 0) {
                refused("write(0, " + what + ")", x -> x.write(0, what), -1);
                refused("write(" + last + ", " + what + ")", x -> x.write(last, what), -1);
            }
        }
    }

    private void count() {
        for (int what : new int[] {-1, 11, LEAST, MOST}) {
            refused("count(" + what + ")", x -> x.count(what), -1);
        }
    }

    private void size() {
        for (int a : new int[] {-1, sizes.length, sizes.length + 1, 8, LEAST, MOST}) {
            refused("size(" + a + ")", x -> x.size(a), -1);
        }
    }

    /** All of them, one behind the other, on one object. */
    private void throwingCalls() {
        story.changesNothing("all that throw", x -> {
            int thrown = 0;
            for (int i : new int[] {-1, 256, LEAST, MOST}) {
                thrown += Due.answer(() -> x.give(i, 9)).equals(Due.THROWS) ? 1 : 0;
                thrown += Due.answer(() -> x.poke(i, 0, 9)).equals(Due.THROWS) ? 1 : 0;
                thrown += Due.answer(() -> x.poke(0, i, 9)).equals(Due.THROWS) ? 1 : 0;
                thrown += Due.answer(() -> x.cell(i, 0)).equals(Due.THROWS) ? 1 : 0;
                thrown += Due.answer(() -> x.cell(0, i)).equals(Due.THROWS) ? 1 : 0;
                thrown += Due.answer(() -> x.write(i, 0)).equals(Due.THROWS) ? 1 : 0;
            }
            return thrown;
        }, "24");
    }

    /** What only tells changes nothing. */
    private void tellingCalls() {
        List<ToLongFunction<TokenCircuit>> calls = new ArrayList<>();
        for (int i = 0; i <= 10; i++) {
            int what = i;
            calls.add(x -> x.count(what));
            calls.add(x -> x.told(what % 6));
            calls.add(x -> x.fault(what % 2));
            calls.add(x -> x.size(what % 8));
            calls.add(x -> x.cell(what % 8, 0));
            calls.add(x -> x.write(what, what % 3));
        }
        for (ToLongFunction<TokenCircuit> call : calls) {
            TokenCircuit x = story.object();
            story.changesNothing("a call that tells", call, Due.answer(() -> call.applyAsLong(x)));
        }
    }

    /** What is taken changes what the document says, and nothing else. */
    private static void takenCalls() {
        Story story = worked("taken", 3000).then(x -> Due.feed(x, FED));
        story.changes("feed", x -> x.feed(0, 0, 0, 0, 0), "40", EnumSet.of(Story.Look.TAPE));
        story.changes("give", x -> x.give(1, 6), "5", EnumSet.of(Story.Look.GIVEN, Story.Look.MEANING));
        story.changes("poke", x -> x.poke(0, 0, 8), "7", EnumSet.of(Story.Look.CELLS, Story.Look.MEANING));
        story.changes("poke what is there", x -> x.poke(0, 0, 7), "7", EnumSet.noneOf(Story.Look.class));
        story.changes("latency", x -> x.latency(1), "3", EnumSet.of(Story.Look.ROWS));
        story.changes("free", x -> x.free(), "2", EnumSet.of(Story.Look.ROWS));
        story.changes("stall", x -> x.stall(9), "6", EnumSet.of(Story.Look.STALL));
        story.changes("stall of all bits", x -> x.stall(-1), "6", EnumSet.of(Story.Look.STALL));
        story.changes("stall as it was", x -> x.stall(6), "6", EnumSet.noneOf(Story.Look.class));
        story.changes("run", x -> x.run(1), "1", EnumSet.of(Story.Look.TOLD, Story.Look.WRITES));
        story.changes("build", x -> x.build(18), "0", EnumSet.of(Story.Look.TAPE, Story.Look.SHAPE, Story.Look.GIVEN,
            Story.Look.CELLS, Story.Look.TOLD, Story.Look.WRITES, Story.Look.MEANING));
        story.changes("build with a FAULT", x -> x.build(17), "-1", EnumSet.of(Story.Look.TAPE, Story.Look.FAULT));
        story.changes("build of nothing", x -> x.build(0), "-1", EnumSet.of(Story.Look.TAPE, Story.Look.FAULT));
    }
}
