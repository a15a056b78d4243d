import java.lang.management.ManagementFactory;
import java.lang.reflect.Array;
import java.lang.reflect.Field;
import java.lang.reflect.Modifier;
import java.util.ArrayDeque;
import java.util.Collections;
import java.util.Deque;
import java.util.IdentityHashMap;
import java.util.Set;

/** How much room an object takes: little when it is made, and its calls, but for those that throw, take none. */
public final class RoomTest {
    private static final String[] TEXTS = {"", "int f(){return x;}", "int f(){return 99999999999;}", "int f(){" + "{".repeat(40),
        "int f(){break;}", "int a[0];int a[1];int f(int a){a[1]=f;}",
        "int m[256];int f(int a,int b){int i=0;while(i<a){m[i*7]=m[i-1]+(b^-i)/3;"
            + "if(m[i]>9)i=i+1;else{if(i>90)break;i=i+2;continue;}}return m[b];}"};

    private RoomTest() {
    }

    public static void main(String[] args) throws IllegalAccessException {
        int[][] words = new int[TEXTS.length][];
        for (int i = 0; i < TEXTS.length; i++) {
            words[i] = wordsOf(TEXTS[i]);
        }
        TokenCircuit x = new TokenCircuit();
        sizeOf(x, "a new object");
        useAll(x, words);
        Due.is("the last text is the PROGRAM", x.count(5), 3);
        sizeOf(x, "an object that was used");
        nothingIsMade(words);
        Due.end();
    }

    private static int[] wordsOf(String text) {
        int[] words = new int[(text.length() + 19) / 20 * 5];
        for (int i = 0; i < 4 * words.length; i++) {
            words[i / 4] = words[i / 4] << 8 | (i < text.length() ? text.charAt(i) : ' ');
        }
        return words;
    }

    /** Some of every call, but for those that throw: an exception is an object. */
    private static void useAll(TokenCircuit x, int[][] texts) {
        for (int[] words : texts) {
            for (int i = 0; i + 4 < words.length; i += 5) {
                x.feed(words[i], words[i + 1], words[i + 2], words[i + 3], words[i + 4]);
            }
            x.build(4 * words.length);
            x.fault(0);
        }
        x.build(1);
        for (int i = 0; i < 40; i++) {
            x.latency(i);
        }
        x.stall(-3L);
        x.give(0, 80);
        x.poke(0, 0, 5);
        x.run(3000);
        x.run(20);
        x.told(1);
        x.write(0, 2);
        x.cell(0, 7);
        x.count(0);
        x.size(0);
        x.free();
    }

    /** All that can be reached from the object: a run may make hundreds of such objects in its room. */
    private static void sizeOf(TokenCircuit x, String what) throws IllegalAccessException {
        Set<Object> seen = Collections.newSetFromMap(new IdentityHashMap<>());
        Deque<Object> open = new ArrayDeque<>();
        open.add(x);
        long elements = 0;
        while (!open.isEmpty()) {
            Object one = open.remove();
            if (seen.add(one)) {
                elements += one.getClass().isArray() ? Array.getLength(one) : fieldsOf(one, open);
            }
        }
        Due.holds("few objects in " + what + ": " + seen.size(), seen.size() <= 60);
        Due.holds("few elements in " + what + ": " + elements, elements <= 30000);
    }

    /** How many fields it has; what they lead to is open then. */
    private static int fieldsOf(Object one, Deque<Object> open) throws IllegalAccessException {
        int fields = 0;
        for (Field field : one.getClass().getDeclaredFields()) {
            if (Modifier.isStatic(field.getModifiers())) {
                continue;
            }
            fields++;
            field.setAccessible(true);
            if (!field.getType().isPrimitive() && field.get(one) != null) {
                open.add(field.get(one));
            }
        }
        return fields;
    }

    private static void nothingIsMade(int[][] words) {
        com.sun.management.ThreadMXBean bean = (com.sun.management.ThreadMXBean) ManagementFactory.getThreadMXBean();
        long self = Thread.currentThread().getId();
        // What the machine makes for itself at first calls is not the class's: the least of many rounds counts.
        long least = Long.MAX_VALUE;
        for (int i = 0; i < 20; i++) {
            TokenCircuit x = new TokenCircuit();
            long before = bean.getThreadAllocatedBytes(self);
            useAll(x, words);
            least = Math.min(least, bean.getThreadAllocatedBytes(self) - before);
        }
        Due.is("bytes that the calls of one object make", least, 0);
    }
}
