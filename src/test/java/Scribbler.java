import java.util.ArrayList;
import java.util.List;
import java.util.Random;

/** Writes texts: PROGRAMS that mean something, and spoilt ones. Its seed makes it always write the same. */
final class Scribbler {
    private static final String[] TWOS = {"||", "&&", "|", "^", "&", "==", "!=", "<", "<=", ">", ">=", "<<", ">>", "+", "-", "*", "/", "%"};
    private static final String[] ODDS = {"int", "if", "else", "while", "break", "continue", "return", "(", ")", "{", "}", "[", "]",
        ";", ",", "=", "==", "!=", "!", "<", "<<", ">", "-", "~", "&", "&&", "|", "0", "257", "7", "a", "b", "m", "f", "zz", "x1",
        "2147483648", "12a", "abcdefghi", "abcdefgh", "#", "\t", "A"};

    private final Random random;
    private final List<String> names = new ArrayList<>();
    private int arrays;
    private int variables;
    private int branchings;
    private int worked;
    private int whiles;
    private StringBuilder text;

    Scribbler(long seed) {
        random = new Random(seed);
    }

    int below(int n) {
        return random.nextInt(n);
    }

    private String blank() {
        return below(6) == 0 ? below(2) == 0 ? " " : "\n" : "";
    }

    private void put(String... tokens) {
        for (String token : tokens) {
            if (text.length() > 0 && Character.isLetterOrDigit(text.charAt(text.length() - 1)) && Character.isLetterOrDigit(token.charAt(0))) {
                text.append(below(5) == 0 ? "\n" : " ");
            }
            text.append(token).append(blank());
        }
    }

    /** A PROGRAM; in a few the limits of room are overstepped. */
    String program(int statements) {
        text = new StringBuilder();
        names.clear();
        branchings = 0;
        worked = 0;
        whiles = 0;
        arrays = 1 + below(3);
        for (int i = 0; i < arrays; i++) {
            put("int", "m" + i, "[", String.valueOf(1 + below(below(3) == 0 ? 256 : 6)), "]", ";");
        }
        put("int", "f", "(");
        int parameters = below(5);
        for (int i = 0; i < parameters; i++) {
            put(i == 0 ? "int" : ",");
            if (i > 0) {
                put("int");
            }
            put("p" + i);
            names.add("p" + i);
        }
        variables = parameters;
        put(")", "{");
        for (int i = 0; i < statements; i++) {
            statement(0, false);
        }
        put("}");
        return text.toString();
    }

    private void statement(int depth, boolean inWhile) {
        int choice = below(20);
        if (choice < 3 && variables < 16) {
            String name = "v" + variables;
            variables++;
            put("int", name, "=");
            e(0);
            put(";");
            names.add(name);
        } else if (choice < 7 && !names.isEmpty()) {
            put(names.get(below(names.size())), "=");
            e(0);
            put(";");
        } else if (choice < 12 && depth < 5 && branchings < 38) {
            branching(depth, inWhile, choice);
        } else if (choice < 13 && inWhile) {
            put(below(2) == 0 ? "break" : "continue", ";");
        } else if (choice < 14 && below(3) == 0) {
            put("return");
            e(0);
            put(";");
        } else if (choice < 16 && depth < 5) {
            block(depth, inWhile);
        } else {
            put("m" + below(arrays), "[");
            e(1);
            put("]", "=");
            e(0);
            put(";");
        }
    }

    private void branching(int depth, boolean inWhile, int choice) {
        branchings++;
        if (choice < 10) {
            put("if", "(");
            e(0);
            put(")");
            body(depth + 1, inWhile);
            if (below(2) == 0) {
                put("else");
                body(depth + 1, inWhile);
            }
        } else if (variables < 15 && below(5) > 0) {
            String counter = "w" + whiles;
            whiles++;
            variables++;
            int known = names.size();
            put("{", "int", counter, "=", "0", ";", "while", "(", counter, "<", String.valueOf(below(7)), ")", "{",
                counter, "=", counter, "+", "1", ";");
            names.add(counter);
            body(depth + 2, true);
            body(depth + 2, true);
            cut(known);
            put("}", "}");
        } else {
            put("while", "(");
            e(0);
            put(")");
            body(depth + 1, true);
        }
    }

    private void body(int depth, boolean inWhile) {
        int known = names.size();
        statement(depth, inWhile);
        cut(known);
    }

    private void block(int depth, boolean inWhile) {
        int known = names.size();
        put("{");
        int n = below(4);
        for (int i = 0; i < n; i++) {
            statement(depth + 1, inWhile);
        }
        put("}");
        cut(known);
    }

    private void cut(int known) {
        while (names.size() > known) {
            names.remove(names.size() - 1);
        }
    }

    private void e(int depth) {
        worked++;
        int choice = below(depth > 4 ? 4 : 10);
        if (choice < 2 && !names.isEmpty()) {
            put(names.get(below(names.size())));
        } else if (choice < 4) {
            put(number());
        } else if (choice < 5) {
            put("m" + below(arrays), "[");
            e(depth + 1);
            put("]");
        } else if (choice < 6) {
            put(below(3) == 0 ? "-" : below(2) == 0 ? "!" : "~");
            e(depth + 1);
        } else if (choice < 7) {
            put("(");
            e(depth + 1);
            put(")");
        } else {
            e(depth + 1);
            put(TWOS[below(TWOS.length)]);
            e(depth + 1);
        }
    }

    private String number() {
        switch (below(8)) {
            case 0:
                return "2147483647";
            case 1:
                return String.valueOf(below(1 << 30));
            case 2:
                return "0";
            default:
                return String.valueOf(below(10));
        }
    }

    /** The text with one to three tokens or bytes put in, left out, or changed. */
    String spoilt(String whole) {
        StringBuilder spoilt = new StringBuilder(whole);
        int n = 1 + below(3);
        for (int i = 0; i < n; i++) {
            int where = below(spoilt.length() + 1);
            String odd = ODDS[below(ODDS.length)];
            int cut = Math.min(spoilt.length(), where + below(3));
            switch (below(5)) {
                case 0:
                    spoilt.insert(where, " " + odd + " ");
                    break;
                case 1:
                    spoilt.insert(where, odd);
                    break;
                case 2:
                    spoilt.delete(where, cut);
                    break;
                case 3:
                    spoilt.replace(where, cut, odd);
                    break;
                default:
                    spoilt.insert(where, odd.repeat(1 + below(17)));
                    break;
            }
            if (spoilt.length() == 0) {
                spoilt.append(' ');
            }
        }
        return spoilt.toString();
    }

    /** Tokens of the language that follow one another by the grammar alone, with names of few kinds: much can be amiss. */
    String wild() {
        text = new StringBuilder();
        int n = below(4) == 0 ? below(11) : below(3);
        for (int i = 0; i < n; i++) {
            put("int", few(), "[", below(9) == 0 ? "0" : "3", "]", ";");
        }
        put("int", below(3) == 0 ? few() : "f", "(");
        n = below(3) == 0 ? below(7) : below(2);
        for (int i = 0; i < n; i++) {
            put(i == 0 ? "int" : ",");
            if (i > 0) {
                put("int");
            }
            put(below(2) == 0 ? few() : "p" + i);
        }
        put(")");
        wildBlock(0, 1 + below(12));
        return text.toString();
    }

    private String few() {
        return String.valueOf((char) ('a' + below(below(4) == 0 ? 26 : 5)));
    }

    private void wildBlock(int depth, int n) {
        put("{");
        for (int i = 0; i < n && text.length() < 1800; i++) {
            wildStatement(depth + 1);
        }
        put("}");
    }

    private void wildStatement(int depth) {
        switch (below(depth > 16 ? 5 : 12)) {
            case 0:
                put("int", few(), "=");
                wildE(depth);
                put(";");
                break;
            case 1:
                put(few(), "=");
                wildE(depth);
                put(";");
                break;
            case 2:
                put(few(), "[");
                wildE(depth);
                put("]", "=");
                wildE(depth);
                put(";");
                break;
            case 3:
                put(below(2) == 0 ? "break" : "continue", ";");
                break;
            case 4:
                put("return");
                wildE(depth);
                put(";");
                break;
            case 5:
            case 6:
                wildBlock(depth, below(3));
                break;
            default:
                boolean isIf = below(2) == 0;
                put(isIf ? "if" : "while", "(");
                wildE(depth);
                put(")");
                wildStatement(depth + 1);
                if (isIf && below(2) == 0) {
                    put("else");
                    wildStatement(depth + 1);
                }
                break;
        }
    }

    private void wildE(int depth) {
        switch (below(depth > 17 ? 2 : 9)) {
            case 0:
                put(few());
                break;
            case 1:
            case 2:
            case 3:
                put("1");
                break;
            case 4:
                put(few(), "[");
                wildE(depth + 1);
                put("]");
                break;
            case 5:
                put(below(2) == 0 ? "-" : "~");
                wildE(depth + 1);
                break;
            case 6:
                put("(");
                wildE(depth + 1);
                put(")");
                break;
            default:
                wildE(depth + 1);
                put(TWOS[below(TWOS.length)]);
                wildE(depth + 1);
                break;
        }
    }

    /** A random pattern for STALL. */
    long pattern() {
        return below(3) == 0 ? -1L ^ 1L << below(64) : random.nextLong();
    }

    int anyInt() {
        return below(3) == 0 ? random.nextInt() : below(12) - 4;
    }
}
