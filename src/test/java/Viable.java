import java.util.ArrayList;
import java.util.LinkedHashSet;
import java.util.List;
import java.util.Set;

/**
 * The grammar of the document, rule by rule, and a reader that knows of no order in it (Earley's):
 * it tells the first token with which no PROGRAM goes on.
 */
final class Viable {
    private static final String[][] RULES = {
        {"PROGRAM", "ARRAYS", "int", "NAME", "(", "PARAMETERS", ")", "BLOCK", "end"},
        {"ARRAYS"},
        {"ARRAYS", "ARRAYS", "int", "NAME", "[", "NUMBER", "]", ";"},
        {"PARAMETERS"},
        {"PARAMETERS", "TOLD"},
        {"TOLD", "int", "NAME"},
        {"TOLD", "TOLD", ",", "int", "NAME"},
        {"BLOCK", "{", "STATEMENTS", "}"},
        {"STATEMENTS"},
        {"STATEMENTS", "STATEMENTS", "STATEMENT"},
        {"STATEMENT", "int", "NAME", "=", "E", ";"},
        {"STATEMENT", "NAME", "=", "E", ";"},
        {"STATEMENT", "NAME", "[", "E", "]", "=", "E", ";"},
        {"STATEMENT", "if", "(", "E", ")", "STATEMENT"},
        {"STATEMENT", "if", "(", "E", ")", "STATEMENT", "else", "STATEMENT"},
        {"STATEMENT", "while", "(", "E", ")", "STATEMENT"},
        {"STATEMENT", "break", ";"},
        {"STATEMENT", "continue", ";"},
        {"STATEMENT", "return", "E", ";"},
        {"STATEMENT", "BLOCK"},
        {"E", "UNARY"},
        {"E", "E", "TWO", "UNARY"},
        {"UNARY", "-", "UNARY"},
        {"UNARY", "!", "UNARY"},
        {"UNARY", "~", "UNARY"},
        {"UNARY", "NUMBER"},
        {"UNARY", "NAME"},
        {"UNARY", "NAME", "[", "E", "]"},
        {"UNARY", "(", "E", ")"},
        {"TWO", "||"}, {"TWO", "&&"}, {"TWO", "|"}, {"TWO", "^"}, {"TWO", "&"}, {"TWO", "=="}, {"TWO", "!="},
        {"TWO", "<"}, {"TWO", "<="}, {"TWO", ">"}, {"TWO", ">="}, {"TWO", "<<"}, {"TWO", ">>"}, {"TWO", "+"},
        {"TWO", "-"}, {"TWO", "*"}, {"TWO", "/"}, {"TWO", "%"},
    };

    /** A rule, how far it is read, and from which token on. */
    private record Item(int rule, int dot, int from) {
        String next() {
            return dot + 1 < RULES[rule].length ? RULES[rule][dot + 1] : null;
        }
    }

    private Viable() {
    }

    /** The number of the first token with which no PROGRAM goes on; -1 if all is a PROGRAM. */
    static int firstOdd(List<String> kinds) {
        List<Set<Item>> sets = new ArrayList<>();
        Set<Item> now = new LinkedHashSet<>();
        now.add(new Item(0, 0, 0));
        for (int i = 0; i < kinds.size(); i++) {
            sets.add(now);
            Set<Item> next = new LinkedHashSet<>();
            List<Item> queue = new ArrayList<>(now);
            for (int k = 0; k < queue.size(); k++) {
                Item item = queue.get(k);
                if (item.next() == null) {
                    complete(item, sets.get(item.from()), now, queue);
                } else if (item.next().equals(kinds.get(i))) {
                    next.add(new Item(item.rule(), item.dot() + 1, item.from()));
                } else {
                    predict(item, i, now, queue);
                }
            }
            if (next.isEmpty()) {
                return i;
            }
            now = next;
        }
        return -1;
    }

    private static void complete(Item whole, Set<Item> begun, Set<Item> now, List<Item> queue) {
        for (Item item : List.copyOf(begun)) {
            if (RULES[whole.rule()][0].equals(item.next())) {
                add(new Item(item.rule(), item.dot() + 1, item.from()), now, queue);
            }
        }
    }

    private static void predict(Item item, int i, Set<Item> now, List<Item> queue) {
        for (int rule = 0; rule < RULES.length; rule++) {
            if (RULES[rule][0].equals(item.next())) {
                add(new Item(rule, 0, i), now, queue);
                // An empty rule is whole at once.
                if (RULES[rule].length == 1) {
                    add(new Item(item.rule(), item.dot() + 1, item.from()), now, queue);
                }
            }
        }
    }

    private static void add(Item item, Set<Item> now, List<Item> queue) {
        if (now.add(item)) {
            queue.add(item);
        }
    }
}
