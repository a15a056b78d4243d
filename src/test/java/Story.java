import java.util.ArrayList;
import java.util.EnumMap;
import java.util.EnumSet;
import java.util.List;
import java.util.Map;
import java.util.Set;
import java.util.function.Consumer;
import java.util.function.ToLongFunction;

/**
 * Calls that are made anew, on a new object, for each look at what they lead to. So a look may
 * change the object that it looks at, and no object is called more than 512 times.
 */
final class Story {
    /** What can be seen of an object; what no call tells can be seen by what later calls do. */
    enum Look { TAPE, FAULT, SHAPE, GIVEN, CELLS, ROWS, STALL, TOLD, WRITES, MEANING, ALWAYS }

    private static final int[] LIMITS = {1, 2, 4, 7, 3000};

    final String name;
    private final List<Consumer<TokenCircuit>> calls = new ArrayList<>();
    private Map<Look, String> seen;

    Story(String name) {
        this.name = name;
    }

    Story(String name, Story before) {
        this.name = name;
        calls.addAll(before.calls);
    }

    Story then(Consumer<TokenCircuit> call) {
        calls.add(call);
        seen = null;
        return this;
    }

    TokenCircuit object() {
        TokenCircuit x = new TokenCircuit();
        for (Consumer<TokenCircuit> call : calls) {
            call.accept(x);
        }
        return x;
    }

    /** The call answers this, and nothing at all has changed. */
    void changesNothing(String call, ToLongFunction<TokenCircuit> made, String want) {
        changes(call, made, want, EnumSet.noneOf(Look.class));
    }

    /** The call answers this, and changes what can be seen by these looks, and nothing else. */
    void changes(String call, ToLongFunction<TokenCircuit> made, String want, Set<Look> changed) {
        if (seen == null) {
            seen = new EnumMap<>(Look.class);
            for (Look look : Look.values()) {
                seen.put(look, at(object(), look));
            }
        }
        for (Look look : Look.values()) {
            TokenCircuit x = object();
            Due.is(name + ", " + call, Due.answer(() -> made.applyAsLong(x)), want);
            String now = at(x, look);
            if (!changed.contains(look)) {
                Due.is(name + ", " + look + " behind " + call, now, seen.get(look));
            } else {
                Due.holds(name + ", " + look + " has changed by " + call + ": " + now, !now.equals(seen.get(look)));
            }
        }
    }

    /** What one look tells, in words. */
    static String at(TokenCircuit x, Look look) {
        StringBuilder line = new StringBuilder();
        switch (look) {
            case TAPE:
                tape(x, line);
                break;
            case FAULT:
                line.append(x.fault(0)).append(" at ").append(x.fault(1));
                break;
            case SHAPE:
                shape(x, line);
                break;
            case GIVEN:
                for (int i = 0; i < 4; i++) {
                    int which = i;
                    line.append(Due.answer(() -> x.give(which, 1))).append(' ');
                }
                break;
            case CELLS:
                cells(x, line);
                break;
            case ROWS:
                line.append(x.count(6)).append(' ').append(x.free());
                break;
            case STALL:
                line.append(x.stall(1));
                break;
            case TOLD:
                told(x, line);
                break;
            case WRITES:
                writes(x, line);
                break;
            case MEANING:
                for (int limit : LIMITS) {
                    line.append(x.run(limit)).append(": ");
                    told(x, line);
                }
                break;
            default:
                for (int what = 7; what <= 10; what++) {
                    line.append(x.count(what)).append(' ');
                }
                break;
        }
        return line.toString();
    }

    /** Which bytes the tape has can be seen by what PROGRAM or what FAULT they make. */
    private static void tape(TokenCircuit x, StringBuilder line) {
        int bytes = x.count(0);
        int answer = x.build(bytes);
        line.append(bytes).append(" bytes, build ").append(answer).append(' ');
        if (answer == 0) {
            shape(x, line);
            line.append(x.run(3000));
            told(x, line);
        } else {
            line.append(x.fault(0)).append(" at ").append(x.fault(1));
        }
    }

    private static void shape(TokenCircuit x, StringBuilder line) {
        for (int what = 1; what <= 5; what++) {
            line.append(x.count(what)).append(' ');
        }
        for (int a = -1; a <= 8; a++) {
            line.append(x.size(a)).append(' ');
        }
    }

    private static void cells(TokenCircuit x, StringBuilder line) {
        for (int a = 0; a < x.count(2); a++) {
            int size = x.size(a);
            for (int i = 0; i < size; i++) {
                if (i < 8 || i == size - 1) {
                    line.append(x.cell(a, i)).append(' ');
                }
            }
        }
    }

    private static void told(TokenCircuit x, StringBuilder line) {
        for (int what = 0; what <= 5; what++) {
            line.append(x.told(what)).append(' ');
        }
    }

    private static void writes(TokenCircuit x, StringBuilder line) {
        for (int i : new int[] {0, 1, 2, 3, 4, 5, 6, 7, 8, 9, 10, 198, 199, 200, 201}) {
            for (int what = 0; what <= 2; what++) {
                int which = what;
                line.append(Due.answer(() -> x.write(i, which))).append(' ');
            }
        }
    }
}
