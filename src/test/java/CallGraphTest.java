import java.io.PrintWriter;
import java.io.StringWriter;
import java.nio.file.Path;
import java.util.ArrayList;
import java.util.HashMap;
import java.util.List;
import java.util.Map;
import java.util.Set;
import java.util.TreeMap;
import java.util.TreeSet;
import java.util.regex.Matcher;
import java.util.regex.Pattern;
import java.util.spi.ToolProvider;

/** What of ../shared/LANGUAGE.md can be seen in who calls whom: its library (4), recursion (8), how deep calls go (11). */
public final class CallGraphTest {
    private static final int MOST_DEEP = 8;
    private static final Pattern METHOD = Pattern.compile("  [\\w ]*?([\\w.$\\[\\]]+)\\((.*)\\).*;");
    private static final Pattern CALL = Pattern.compile(".*: invoke(\\w+) .*// (?:Interface)?Method (?:([\\w/$\"\\[]+)\\.)?\"?([\\w<>]+)\"?:.*");
    private static final Set<String> LIBRARY = Set.of("java/lang/Object.<init>", "java/lang/Math.min", "java/lang/Math.max",
        "java/lang/Math.floorMod", "java/lang/String.indexOf", "java/util/Arrays.fill", "java/util/NoSuchElementException.<init>");
    /** The only ones that may come back to themselves: DEEP keeps them low. */
    private static final Set<String> RECURSIVE = Set.of("Maker.readBlock", "Maker.readStatement", "Maker.readIf", "Maker.readWhile",
        "Maker.readBody");

    private static final Map<String, Set<String>> CALLS = new TreeMap<>();
    private static final Map<String, Integer> DEPTHS = new HashMap<>();

    private CallGraphTest() {
    }

    public static void main(String[] args) {
        readClass("TokenCircuit");
        for (Class<?> inner : TokenCircuit.class.getDeclaredClasses()) {
            readClass(inner.getName());
        }
        Due.holds("calls are found", CALLS.size() > 100 && CALLS.containsKey("Maker.readIf"));
        for (String method : CALLS.keySet()) {
            boolean isRecursive = reached(CALLS.get(method)).contains(method);
            Due.is("recursion of " + method, Boolean.toString(isRecursive), Boolean.toString(RECURSIVE.contains(method)));
        }
        for (String method : CALLS.keySet()) {
            Due.holds(method + " goes " + depth(method) + " deep", depth(method) <= MOST_DEEP);
        }
        Due.end();
    }

    private static void readClass(String name) {
        StringWriter text = new StringWriter();
        String file = Path.of(System.getProperty("java.class.path")).resolve(name + ".class").toString();
        ToolProvider javap = ToolProvider.findFirst("javap").orElseThrow();
        Due.is("javap of " + name, javap.run(new PrintWriter(text), new PrintWriter(text), "-c", "-p", file), 0);
        String owner = shorter(name);
        String method = "";
        for (String line : text.toString().split("\n")) {
            Matcher head = METHOD.matcher(line);
            Matcher call = CALL.matcher(line);
            if (head.matches()) {
                method = owner + "." + (head.group(1).equals(name) ? "<init>" : head.group(1));
                CALLS.put(method, new TreeSet<>());
            } else if (call.matches()) {
                addCall(method, call.group(2) == null ? name : call.group(2), call.group(3));
            } else {
                Due.holds("a call that is understood: " + line, !line.contains(": invoke"));
            }
        }
    }

    private static void addCall(String from, String owner, String name) {
        if (owner.startsWith("TokenCircuit")) {
            CALLS.get(from).add(shorter(owner) + "." + name);
        } else {
            Due.holds(from + " calls " + owner + "." + name, LIBRARY.contains(owner + "." + name));
        }
    }

    private static String shorter(String name) {
        return name.substring(name.indexOf('$') + 1);
    }

    private static Set<String> reached(Set<String> from) {
        Set<String> seen = new TreeSet<>();
        List<String> open = new ArrayList<>(from);
        while (!open.isEmpty()) {
            String one = open.remove(open.size() - 1);
            if (seen.add(one)) {
                open.addAll(CALLS.get(one));
            }
        }
        return seen;
    }

    /** How many stand open at most from this one on, those of the recursion counted as one. */
    private static int depth(String method) {
        if (DEPTHS.containsKey(method)) {
            return DEPTHS.get(method);
        }
        int most = 0;
        for (String from : RECURSIVE.contains(method) ? RECURSIVE : Set.of(method)) {
            for (String called : CALLS.get(from)) {
                boolean isSame = RECURSIVE.contains(from) && RECURSIVE.contains(called);
                most = Math.max(most, isSame ? 0 : depth(called));
            }
        }
        DEPTHS.put(method, most + 1);
        return most + 1;
    }
}
