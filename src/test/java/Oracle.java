import java.util.ArrayList;
import java.util.HashMap;
import java.util.List;
import java.util.Map;
import java.util.regex.Matcher;
import java.util.regex.Pattern;

/**
 * The document read a second time, in another manner: a tree instead of a circuit, exceptions and
 * recursion instead of rows, FAULTS gathered from the whole tree instead of along the way.
 */
final class Oracle {
    private static final Pattern TOKEN = Pattern.compile(
        "[a-z][a-z0-9]*|[0-9]+[a-z]?|==|!=|<=|<<|>=|>>|&&|\\|\\||[(){}\\[\\];,=!<>+\\-*/%&|^~]");
    private static final List<String> WORDS = List.of("int", "if", "else", "while", "break", "continue", "return");
    private static final List<List<String>> LEVELS = List.of(List.of("||"), List.of("&&"), List.of("|"), List.of("^"),
        List.of("&"), List.of("==", "!="), List.of("<", "<=", ">", ">="), List.of("<<", ">>"), List.of("+", "-"),
        List.of("*", "/", "%"));

    int faultKind = 0;
    int faultPlace = -1;
    final List<Integer> sizes = new ArrayList<>();
    int parameters = 0;
    int variables = 0;
    int branchings = 0;

    private final List<String> kinds = new ArrayList<>();
    private final List<String> texts = new ArrayList<>();
    private final List<Integer> places = new ArrayList<>();
    /** Where what can be deep begins and ends, by the numbers of tokens. */
    private final List<int[]> spans = new ArrayList<>();
    private int at = 0;
    private Tree body;
    private final List<Tree> heads = new ArrayList<>();

    /** A node of the tree: what it is, its text, and its parts. */
    static final class Tree {
        final String what;
        final String text;
        final int place;
        final List<Tree> kids = new ArrayList<>();
        int number = -1;

        Tree(String what, String text, int place, Tree... kids) {
            this.what = what;
            this.text = text;
            this.place = place;
            this.kids.addAll(List.of(kids));
        }

        Tree kid(int i) {
            return kids.get(i);
        }
    }

    private static final class Odd extends RuntimeException {
        private static final long serialVersionUID = 1;

        Odd() {
            super(null, null, false, false);
        }
    }

    Oracle(String text) {
        cut(text);
        boolean odd = false;
        try {
            program();
        } catch (Odd e) {
            odd = true;
        }
        int deep = deepest();
        if (deep >= 0) {
            faultKind = 7;
            faultPlace = places.get(deep);
        } else if (odd) {
            faultKind = 1;
            faultPlace = places.get(at);
        } else {
            meaning();
        }
    }

    /** The kinds of the tokens; the last is "end" or "bad". */
    List<String> kinds() {
        return kinds;
    }

    int placeOf(int token) {
        return places.get(token);
    }

    private void cut(String text) {
        Matcher matcher = TOKEN.matcher(text);
        int next = 0;
        while (true) {
            while (next < text.length() && (text.charAt(next) == ' ' || text.charAt(next) == '\n')) {
                next++;
            }
            places.add(next);
            if (next == text.length()) {
                kinds.add("end");
                texts.add("");
                return;
            }
            matcher.region(next, text.length());
            if (!matcher.lookingAt() || !isToken(matcher.group())) {
                kinds.add("bad");
                texts.add("");
                return;
            }
            String token = matcher.group();
            texts.add(token);
            kinds.add(WORDS.contains(token) ? token
                : Character.isLetter(token.charAt(0)) ? "NAME" : Character.isDigit(token.charAt(0)) ? "NUMBER" : token);
            next = matcher.end();
        }
    }

    private static boolean isToken(String token) {
        if (Character.isLetter(token.charAt(0))) {
            return token.length() <= 8;
        }
        if (Character.isDigit(token.charAt(0))) {
            return !Character.isLetter(token.charAt(token.length() - 1))
                && new java.math.BigInteger(token).bitLength() <= 31;
        }
        return true;
    }

    private boolean sees(String kind) {
        return kinds.get(at).equals(kind);
    }

    private String want(String kind) {
        if (!sees(kind)) {
            throw new Odd();
        }
        at++;
        return texts.get(at - 1);
    }

    private int[] opening(String kind) {
        int[] span = {at, Integer.MAX_VALUE};
        want(kind);
        spans.add(span);
        return span;
    }

    private void ended(int[] span) {
        span[1] = at;
    }

    /** The first token that can be deep and has 16 others around it; -1 without. */
    private int deepest() {
        for (int[] one : spans) {
            int around = 0;
            for (int[] other : spans) {
                if (other[0] < one[0] && other[1] > one[0]) {
                    around++;
                }
            }
            if (around >= 16) {
                return one[0];
            }
        }
        return -1;
    }

    private Tree name(String what) {
        int place = places.get(at);
        return new Tree(what, want("NAME"), place);
    }

    private void program() {
        while (true) {
            want("int");
            Tree head = name("array");
            heads.add(head);
            if (!sees("[")) {
                break;
            }
            int[] span = opening("[");
            int place = places.get(at);
            head.kids.add(new Tree("size", want("NUMBER"), place));
            want("]");
            ended(span);
            want(";");
        }
        int[] span = opening("(");
        while (!sees(")")) {
            want("int");
            heads.add(name("parameter"));
            if (!sees(",")) {
                break;
            }
            want(",");
            if (!sees("int")) {
                throw new Odd();
            }
        }
        want(")");
        ended(span);
        body = block();
        want("end");
    }

    private Tree block() {
        Tree block = new Tree("block", "", places.get(at));
        int[] span = opening("{");
        while (!sees("}")) {
            block.kids.add(statement());
        }
        want("}");
        ended(span);
        return block;
    }

    private Tree statement() {
        int place = places.get(at);
        String kind = kinds.get(at);
        Tree it = new Tree(kind, texts.get(at), place);
        int[] span = {at, Integer.MAX_VALUE};
        switch (kind) {
            case "int":
                want("int");
                it.kids.add(name("told"));
                want("=");
                it.kids.add(e(0));
                want(";");
                return it;
            case "NAME":
                want("NAME");
                if (sees("[")) {
                    int[] index = opening("[");
                    it.kids.add(e(0));
                    want("]");
                    ended(index);
                }
                want("=");
                it.kids.add(e(0));
                want(";");
                return it;
            case "if":
            case "while":
                span = opening(kind);
                int[] condition = opening("(");
                it.kids.add(e(0));
                want(")");
                ended(condition);
                it.kids.add(statement());
                if (kind.equals("if") && sees("else")) {
                    want("else");
                    it.kids.add(statement());
                }
                ended(span);
                return it;
            case "break":
            case "continue":
                want(kind);
                want(";");
                return it;
            case "return":
                want(kind);
                it.kids.add(e(0));
                want(";");
                return it;
            case "{":
                return block();
            default:
                throw new Odd();
        }
    }

    private Tree e(int level) {
        if (level == LEVELS.size()) {
            return unary();
        }
        Tree left = e(level + 1);
        while (LEVELS.get(level).contains(kinds.get(at))) {
            int place = places.get(at);
            String sign = want(kinds.get(at));
            left = new Tree("two", sign, place, left, e(level + 1));
        }
        return left;
    }

    private Tree unary() {
        int place = places.get(at);
        for (String sign : List.of("-", "!", "~")) {
            if (sees(sign)) {
                int[] span = opening(sign);
                Tree it = new Tree("one", sign, place, unary());
                ended(span);
                return it;
            }
        }
        if (sees("NUMBER")) {
            return new Tree("number", want("NUMBER"), place);
        }
        if (sees("(")) {
            int[] span = opening("(");
            Tree it = e(0);
            want(")");
            ended(span);
            return it;
        }
        Tree it = name("use");
        if (sees("[")) {
            int[] span = opening("[");
            it.kids.add(e(0));
            want("]");
            ended(span);
        }
        return it;
    }

    // FAULTS 2 to 6: all of them, gathered in any order; then the first.

    private final List<int[]> found = new ArrayList<>();
    private final List<Integer> workedPlaces = new ArrayList<>();

    private void blame(int kind, Tree where) {
        found.add(new int[] {where.place, kind});
    }

    private void meaning() {
        Map<String, String> sight = new HashMap<>();
        Map<String, Integer> numbers = new HashMap<>();
        boolean behindFunction = false;
        for (Tree head : heads) {
            String sort = behindFunction ? "variable" : head.kids.isEmpty() ? "function" : "array";
            if (sight.containsKey(head.text)) {
                blame(2, head);
            }
            if (sort.equals("array")) {
                long cells = Long.parseLong(head.kid(0).text);
                if (cells < 1 || cells > 256) {
                    blame(6, head.kid(0));
                }
                numbers.put(head.text, sizes.size());
                sizes.add((int) cells);
                if (sizes.size() > 8) {
                    blame(6, head);
                }
            } else if (sort.equals("function")) {
                behindFunction = true;
            } else {
                numbers.put(head.text, variables);
                parameters++;
                variables++;
                if (parameters > 4) {
                    blame(6, head);
                }
            }
            sight.put(head.text, sort);
        }
        check(body, sight, numbers, false);
        workedPlaces.sort(null);
        if (workedPlaces.size() > 400) {
            found.add(new int[] {workedPlaces.get(400), 6});
        }
        found.sort((a, b) -> a[0] != b[0] ? Integer.compare(a[0], b[0]) : Integer.compare(a[1], b[1]));
        if (!found.isEmpty()) {
            faultPlace = found.get(0)[0];
            faultKind = found.get(0)[1];
        }
    }

    private void scoped(Tree it, Map<String, String> sight, Map<String, Integer> numbers, boolean inWhile) {
        check(it, new HashMap<>(sight), new HashMap<>(numbers), inWhile);
    }

    private void check(Tree it, Map<String, String> sight, Map<String, Integer> numbers, boolean inWhile) {
        switch (it.what) {
            case "block":
                Map<String, String> inner = new HashMap<>(sight);
                Map<String, Integer> innerNumbers = new HashMap<>(numbers);
                for (Tree kid : it.kids) {
                    check(kid, inner, innerNumbers, inWhile);
                }
                break;
            case "int":
                Tree told = it.kid(0);
                if (sight.containsKey(told.text)) {
                    blame(2, told);
                }
                it.number = variables;
                variables++;
                if (variables > 16) {
                    blame(6, told);
                }
                checkE(it.kid(1), sight, numbers);
                sight.put(told.text, "variable");
                numbers.put(told.text, it.number);
                break;
            case "NAME":
                checkUse(it, it.kids.size() == 2, sight, numbers);
                for (Tree kid : it.kids) {
                    checkE(kid, sight, numbers);
                }
                break;
            case "if":
            case "while":
                branchings++;
                if (branchings > 40) {
                    blame(6, it);
                }
                checkE(it.kid(0), sight, numbers);
                for (int i = 1; i < it.kids.size(); i++) {
                    scoped(it.kid(i), sight, numbers, inWhile || it.what.equals("while"));
                }
                break;
            case "return":
                checkE(it.kid(0), sight, numbers);
                break;
            default:
                if (!inWhile) {
                    blame(5, it);
                }
                break;
        }
    }

    private void checkUse(Tree it, boolean indexed, Map<String, String> sight, Map<String, Integer> numbers) {
        String sort = sight.get(it.text);
        if (sort == null) {
            blame(3, it);
        } else if (!sort.equals(indexed ? "array" : "variable")) {
            blame(4, it);
        } else {
            it.number = numbers.get(it.text);
        }
    }

    private void checkE(Tree it, Map<String, String> sight, Map<String, Integer> numbers) {
        workedPlaces.add(it.place);
        if (it.what.equals("use")) {
            checkUse(it, !it.kids.isEmpty(), sight, numbers);
        }
        for (Tree kid : it.kids) {
            checkE(kid, sight, numbers);
        }
    }

    // What the text means.

    int[][] cells;
    int[] given;
    int answer = -1;
    int result = 0;
    int steps = 0;
    int reads = 0;
    final List<int[]> writes = new ArrayList<>();
    private int limit;
    private final int[] values = new int[16];

    private static final class Leave extends RuntimeException {
        private static final long serialVersionUID = 1;
        final String how;

        Leave(String how) {
            super(null, null, false, false);
            this.how = how;
        }
    }

    void prepare() {
        cells = new int[sizes.size()][];
        for (int i = 0; i < cells.length; i++) {
            cells[i] = new int[sizes.get(i)];
        }
        given = new int[parameters];
    }

    void run(int most) {
        limit = most;
        steps = 0;
        reads = 0;
        writes.clear();
        result = 0;
        answer = 0;
        System.arraycopy(given, 0, values, 0, parameters);
        try {
            step();
            work(body);
        } catch (Leave e) {
            if (e.how.equals("unended")) {
                answer = 1;
            }
        }
    }

    private void step() {
        if (steps == limit) {
            throw new Leave("unended");
        }
        steps++;
    }

    private void work(Tree it) {
        switch (it.what) {
            case "block":
                for (Tree kid : it.kids) {
                    work(kid);
                }
                break;
            case "int":
                values[it.number] = value(it.kid(1));
                break;
            case "NAME":
                if (it.kids.size() == 1) {
                    values[it.number] = value(it.kid(0));
                } else {
                    int cell = Math.floorMod(value(it.kid(0)), cells[it.number].length);
                    int what = value(it.kid(1));
                    cells[it.number][cell] = what;
                    writes.add(new int[] {it.number, cell, what});
                }
                break;
            case "if":
                if (value(it.kid(0)) != 0) {
                    step();
                    work(it.kid(1));
                } else if (it.kids.size() == 3) {
                    step();
                    work(it.kid(2));
                }
                step();
                break;
            case "while":
                loop(it);
                break;
            case "return":
                result = value(it.kid(0));
                throw new Leave("return");
            default:
                throw new Leave(it.what);
        }
    }

    private void loop(Tree it) {
        while (true) {
            step();
            if (value(it.kid(0)) == 0) {
                break;
            }
            step();
            try {
                work(it.kid(1));
            } catch (Leave e) {
                if (e.how.equals("break")) {
                    break;
                }
                if (!e.how.equals("continue")) {
                    throw e;
                }
            }
        }
        step();
    }

    private int value(Tree it) {
        switch (it.what) {
            case "number":
                return Integer.parseInt(it.text);
            case "use":
                if (it.kids.isEmpty()) {
                    return values[it.number];
                }
                int cell = Math.floorMod(value(it.kid(0)), cells[it.number].length);
                reads++;
                return cells[it.number][cell];
            case "one":
                int a = value(it.kid(0));
                return it.text.equals("-") ? 0 - a : it.text.equals("~") ? -1 - a : a == 0 ? 1 : 0;
            default:
                int left = value(it.kid(0));
                return (int) RunTest.plain(it.text, left, value(it.kid(1)));
        }
    }
}
