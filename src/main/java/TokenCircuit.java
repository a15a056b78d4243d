import java.util.Arrays;
import java.util.NoSuchElementException;

/**
 * A maker of circuits: a text of a small C becomes a circuit of parts that hand tokens to one
 * another, each when it has what it wants and room for what it makes; memory answers after told
 * times, whoever takes the result holds it up as told; and what comes out is what the text means.
 *
 * <p>All rows are made once, with the object: no call makes anything new but an exception that is due.
 */
public final class TokenCircuit {
    /** There is none. */
    public static final int NONE = -1;

    private static final int NOT_SO_MANY = -2;

    // The limits that the document tells.
    private static final int MOST_BYTES = 2000;
    private static final int FED_BYTES = 20;
    private static final int MOST_LETTERS = 8;
    private static final int MOST_NUMBER = 2147483647;
    private static final int MOST_ARRAYS = 8;
    private static final int MOST_CELLS = 256;
    private static final int MOST_PARAMETERS = 4;
    private static final int MOST_VARIABLES = 16;
    private static final int MOST_BRANCHINGS = 40;
    private static final int MOST_WORKED = 400;
    private static final int MOST_OPEN = 16;
    private static final int MOST_ROWS = 32;
    private static final int MOST_LATENCY = 64;
    private static final int MOST_STEPS = 3000;
    private static final int MOST_KEPT = 200;

    // The limits that follow from those.
    private static final int MOST_TOKENS = MOST_BYTES + 1;
    private static final int MOST_NAMES = MOST_ARRAYS + 1 + MOST_VARIABLES;
    /** Each if and each while has at most two places where ways come together. */
    private static final int MOST_JUNCTIONS = 2 * MOST_BRANCHINGS;
    /**
     * What is worked (400), a part behind each E (400), breaks and continues (6 bytes each: 333),
     * five for each if and while (200), the beginning and the end (3).
     */
    private static final int MOST_PARTS = 1400;
    /** Within each of the 16 that can be open, and outside, one sign of each of the 10 levels. */
    private static final int MOST_WAITING = MOST_OPEN + 10 * (MOST_OPEN + 1);
    /** Between two STEPS no part works twice, and none takes longer than the longest LATENCY. */
    private static final int MOST_CYCLES = MOST_STEPS * MOST_PARTS * MOST_LATENCY;

    // The kinds of FAULTS; 0 is none.
    private static final int ODD = 1;
    private static final int TWICE = 2;
    private static final int UNKNOWN = 3;
    private static final int MISUSED = 4;
    private static final int STRAY = 5;
    private static final int ROOM = 6;
    private static final int DEEP = 7;

    // The kinds of tokens; a sign's is its byte, or its first byte times 256 and its second one.
    private static final int END = 0;
    private static final int BAD = 1;
    private static final int NAME = 2;
    private static final int NUMBER = 3;
    private static final int INT = 4;
    private static final int IF = 5;
    private static final int ELSE = 6;
    private static final int WHILE = 7;
    private static final int BREAK = 8;
    private static final int CONTINUE = 9;
    private static final int RETURN = 10;
    private static final int OR = '|' << 8 | '|';
    private static final int AND = '&' << 8 | '&';
    private static final int EQUAL = '=' << 8 | '=';
    private static final int UNEQUAL = '!' << 8 | '=';
    private static final int AT_MOST = '<' << 8 | '=';
    private static final int AT_LEAST = '>' << 8 | '=';
    private static final int UP = '<' << 8 | '<';
    private static final int DOWN = '>' << 8 | '>';

    /** The words in the order of their kinds, from INT on, their bytes packed as in a NAME. */
    private static final long[] WORDS = {
        0x696E74L, 0x6966L, 0x656C7365L, 0x7768696C65L, 0x627265616BL, 0x636F6E74696E7565L, 0x72657475726EL
    };

    private static final String SIGNS = "(){}[];,=!<>+-*/%&|^~";
    private static final String BEFORE_EQUAL = "=!<>";
    private static final String DOUBLED = "<>&|";

    // The kinds of parts; those that work a sign of two have its kind, of one, that below 0.
    private static final int CONSTANT = 1;
    private static final int LOOK = 2;
    private static final int FETCH = 3;
    private static final int SET = 4;
    private static final int STORE = 5;
    private static final int FORK = 6;
    private static final int STEP = 7;
    private static final int WIRE = 8;
    private static final int ANSWER = 9;
    private static final int NEGATE = -'-';
    private static final int NOT = -'!';
    private static final int INVERT = -'~';

    // What a NAME can mean.
    private static final int ARRAY = 1;
    private static final int FUNCTION = 2;
    private static final int VARIABLE = 3;

    // What a RUN answers.
    private static final int ENDED = 0;
    private static final int UNENDED = 1;

    private final Tape tape;
    private final Tokens tokens;
    private final Maker maker;
    private final Memory memory;
    private final Taker taker;
    private final Work work;
    private final int[] given;
    private Circuit circuit;
    private Circuit spare;
    private boolean built;
    private int faultKind;
    private int faultPlace;

    /** An empty tape, no PROGRAM, no rows of LATENCIES, STALL 0; nothing was run. */
    public TokenCircuit() {
        circuit = new Circuit();
        spare = new Circuit();
        tape = new Tape();
        tokens = new Tokens(tape.bytes);
        maker = new Maker(tokens, spare);
        memory = new Memory();
        taker = new Taker();
        work = new Work(memory, taker, circuit);
        given = new int[MOST_PARAMETERS];
        built = false;
        faultKind = 0;
        faultPlace = NONE;
    }

    /** Puts twenty bytes on the tape, of each number the highest first: how many it has; NONE if it has no room. */
    public int feed(int a, int b, int c, int d, int e) {
        if (tape.used + FED_BYTES > MOST_BYTES) {
            return NONE;
        }
        tape.add(a);
        tape.add(b);
        tape.add(c);
        tape.add(d);
        tape.add(e);
        return tape.used;
    }

    /** Makes the first n bytes of the tape the PROGRAM: 0; NONE with a FAULT; -2 if there are not so many. */
    public int build(int n) {
        if (n < 0 || n > tape.used) {
            return NOT_SO_MANY;
        }
        tokens.cut(n);
        tape.used = 0;
        maker.make(spare);
        faultKind = maker.faultKind();
        faultPlace = maker.faultPlace();
        if (faultKind != 0) {
            return NONE;
        }
        // The circuit of before is laid aside, to be written over by the next build.
        Circuit before = circuit;
        circuit = spare;
        spare = before;
        built = true;
        Arrays.fill(given, 0);
        memory.clear();
        work.forget();
        return 0;
    }

    /** Tells the kind (0) or the place (1) of the FAULT of the latest build that read a text. */
    public int fault(int what) {
        switch (what) {
            case 0:
                return faultKind;
            case 1:
                return faultPlace;
            default:
                return NONE;
        }
    }

    /** Gives PARAMETER i the value v: what it was. */
    public int give(int i, int v) throws NoSuchElementException {
        if (i < 0 || i >= circuit.parameters || i >= given.length) {
            throw new NoSuchElementException("no such PARAMETER");
        }
        int before = given[i];
        given[i] = v;
        return before;
    }

    /** Puts v in cell i of ARRAY a: what was there. */
    public int poke(int a, int i, int v) throws NoSuchElementException {
        if (!isCell(a, i)) {
            throw new NoSuchElementException("no such cell");
        }
        int before = memory.look(a, i);
        memory.put(a, i, v);
        return before;
    }

    /** Tells cell i of ARRAY a. */
    public int cell(int a, int i) throws NoSuchElementException {
        if (!isCell(a, i)) {
            throw new NoSuchElementException("no such cell");
        }
        return memory.look(a, i);
    }

    /** Adds a row of LATENCIES: how many there are; NONE if n is not 1 to 64, or there is no room. */
    public int latency(int n) {
        if (n < 1 || n > MOST_LATENCY || memory.rows >= MOST_ROWS) {
            return NONE;
        }
        memory.addRow(n);
        return memory.rows;
    }

    /** Takes all rows of LATENCIES away: how many there were. */
    public int free() {
        int before = memory.rows;
        memory.rows = 0;
        return before;
    }

    /** Sets STALL (to 0, if the pattern would hold the result up for ever): what it was. */
    public long stall(long pattern) {
        long before = taker.pattern;
        taker.pattern = pattern == -1L ? 0L : pattern;
        return before;
    }

    /** Runs the PROGRAM: 0 if it ended, 1 if it was UNENDED; NONE without a PROGRAM, or if limit is not 1 to 3000. */
    public int run(int limit) {
        if (!built || limit < 1 || limit > MOST_STEPS) {
            return NONE;
        }
        return work.perform(circuit, given, limit);
    }

    /** Tells of the latest RUN: 0 its answer, 1 result, 2 STEPS, 3 cells read, 4 written, 5 results delivered. */
    public int told(int what) {
        switch (what) {
            case 0:
                return work.answer;
            case 1:
                return work.result;
            case 2:
                return work.steps;
            case 3:
                return memory.reads;
            case 4:
                return memory.writes;
            case 5:
                return taker.delivered;
            default:
                return NONE;
        }
    }

    /** Tells of the i-th write of the latest RUN: 0 its ARRAY, 1 its cell, 2 what came there. */
    public int write(int i, int what) throws NoSuchElementException {
        if (i < 0 || i >= memory.writes || i >= MOST_KEPT) {
            throw new NoSuchElementException("no such write");
        }
        switch (what) {
            case 0:
                return memory.keptArrays[i];
            case 1:
                return memory.keptCells[i];
            case 2:
                return memory.keptValues[i];
            default:
                return NONE;
        }
    }

    /** Counts what the object holds (0 to 6), and what may never happen in the circuit (7 to 10). */
    public int count(int what) {
        switch (what) {
            case 0:
                return tape.used;
            case 1:
                return built ? 1 : 0;
            case 2:
                return circuit.arrays;
            case 3:
                return circuit.parameters;
            case 4:
                return circuit.variables;
            case 5:
                return circuit.branchings;
            case 6:
                return memory.rows;
            case 7:
                return work.unused;
            case 8:
                return work.late;
            case 9:
                return work.roomless;
            case 10:
                return memory.early;
            default:
                return NONE;
        }
    }

    /** Tells how many cells ARRAY a has; NONE if there is none such. */
    public int size(int a) {
        return circuit.cellsOf(a);
    }

    private boolean isCell(int a, int i) {
        return i >= 0 && i < circuit.cellsOf(a);
    }

    /** The bytes that were fed and not yet built. */
    private static final class Tape {
        private final byte[] bytes = new byte[MOST_BYTES];
        private int used;

        void add(int number) {
            for (int shift = 24; shift >= 0 && used < MOST_BYTES; shift -= 8) {
                bytes[used] = (byte) (number >> shift);
                used++;
            }
        }
    }

    /** The text cut into tokens: the last is END, or BAD where what stands there is no token. */
    private static final class Tokens {
        private final int[] kinds = new int[MOST_TOKENS];
        private final int[] places = new int[MOST_TOKENS];
        /** A NUMBER's value; a NAME's bytes, packed. */
        private final long[] values = new long[MOST_TOKENS];
        private final byte[] text;
        private int length;
        private int next;
        private int count;

        Tokens(byte[] text) {
            this.text = text;
        }

        void cut(int n) {
            length = n;
            next = 0;
            count = 0;
            int kind = NAME;
            while (kind != END && kind != BAD && count < MOST_TOKENS) {
                skipBlanks();
                places[count] = next;
                kind = cutToken(byteAt(next));
                kinds[count] = kind;
                count++;
            }
        }

        private void skipBlanks() {
            while (next < length && (byteAt(next) == ' ' || byteAt(next) == '\n')) {
                next++;
            }
        }

        private int cutToken(int first) {
            if (first == NONE) {
                return END;
            }
            if (isLetter(first)) {
                return cutName();
            }
            return isDigit(first) ? cutNumber() : cutSign(first);
        }

        private int cutName() {
            int start = next;
            long packed = 0;
            while (next < length && (isLetter(byteAt(next)) || isDigit(byteAt(next)))) {
                packed = packed << 8 | byteAt(next);
                next++;
            }
            if (next - start > MOST_LETTERS) {
                return BAD;
            }
            values[count] = packed;
            for (int i = 0; i < WORDS.length; i++) {
                if (WORDS[i] == packed) {
                    return INT + i;
                }
            }
            return NAME;
        }

        private int cutNumber() {
            long value = 0;
            while (next < length && isDigit(byteAt(next))) {
                // Held just above the most, so that no run of digits makes it wrap.
                value = Math.min(10 * value + byteAt(next) - '0', MOST_NUMBER + 1L);
                next++;
            }
            values[count] = value;
            return value > MOST_NUMBER || isLetter(byteAt(next)) ? BAD : NUMBER;
        }

        private int cutSign(int first) {
            if (SIGNS.indexOf((char) first) < 0) {
                return BAD;
            }
            int second = byteAt(next + 1);
            boolean withEqual = second == '=' && BEFORE_EQUAL.indexOf((char) first) >= 0;
            boolean doubled = second == first && DOUBLED.indexOf((char) first) >= 0;
            next++;
            if (!withEqual && !doubled) {
                return first;
            }
            next++;
            return first << 8 | second;
        }

        private int byteAt(int i) {
            return i >= 0 && i < length && i < MOST_BYTES ? text[i] & 255 : NONE;
        }

        private static boolean isLetter(int c) {
            return c >= 'a' && c <= 'z';
        }

        private static boolean isDigit(int c) {
            return c >= '0' && c <= '9';
        }
    }

    /** Goes along the tokens, knows how deep it is, and keeps the FAULT. */
    private static final class Reading {
        private final Tokens tokens;
        private int at;
        private int open;
        private int kind;
        private int place;
        private long value;
        private int faultKind;
        private int faultPlace;

        Reading(Tokens tokens) {
            this.tokens = tokens;
        }

        void begin() {
            open = 0;
            faultKind = 0;
            faultPlace = NONE;
            at = NONE;
            advance();
        }

        void advance() {
            if (at + 1 < tokens.count && at + 1 < MOST_TOKENS) {
                at++;
                kind = tokens.kinds[at];
                place = tokens.places[at];
                value = tokens.values[at];
            }
        }

        /** Goes past a token that must be of this kind. */
        boolean pass(int wanted) {
            if (kind != wanted) {
                return refuse();
            }
            advance();
            return true;
        }

        /** Goes past a token that must be of this kind and that others can stand within. */
        boolean enter(int wanted) {
            if (kind != wanted) {
                return refuse();
            }
            if (open >= MOST_OPEN) {
                faultKind = DEEP;
                faultPlace = place;
                return false;
            }
            open++;
            advance();
            return true;
        }

        void leave() {
            open--;
        }

        /** The reading ends here, and what was blamed before counts no more. */
        boolean refuse() {
            faultKind = ODD;
            faultPlace = place;
            return false;
        }

        /** Keeps the first FAULT of meaning; the reading goes on, as one of kind 1 or 7 would count more. */
        void blame(int fault, int where) {
            if (faultKind == 0 && fault != 0) {
                faultKind = fault;
                faultPlace = where;
            }
        }
    }

    /** The NAMES that are in sight, the latest last. */
    private static final class Sight {
        private final long[] names = new long[MOST_NAMES];
        private final int[] sorts = new int[MOST_NAMES];
        private final int[] numbers = new int[MOST_NAMES];
        private int known;

        void tell(long name, int sort, int number) {
            if (known < MOST_NAMES) {
                names[known] = name;
                sorts[known] = sort;
                numbers[known] = number;
                known++;
            }
        }

        int find(long name) {
            for (int i = 0; i < known && i < MOST_NAMES; i++) {
                if (names[i] == name) {
                    return i;
                }
            }
            return NONE;
        }

        int numberOf(int which) {
            return which >= 0 && which < known && which < MOST_NAMES ? numbers[which] : NONE;
        }

        /** The kind of the FAULT of telling this NAME anew; 0 without. */
        int faultOfTelling(long name) {
            return find(name) == NONE ? 0 : TWICE;
        }

        /** The kind of the FAULT of using this NAME, with or without [ behind it; 0 without. */
        int faultOfUse(int which, boolean indexed) {
            if (which < 0 || which >= known || which >= MOST_NAMES) {
                return UNKNOWN;
            }
            return sorts[which] == (indexed ? ARRAY : VARIABLE) ? 0 : MISUSED;
        }
    }

    /**
     * The parts and the ways between them. The parts stand in a row, in the order in which they
     * work; each hands what it makes to one later part, and the token that says whose turn it is
     * to the next of the row, or, a FORK and a WIRE, to a junction.
     */
    private static final class Circuit {
        private final int[] kinds = new int[MOST_PARTS];
        private final int[] lefts = new int[MOST_PARTS];
        private final int[] rights = new int[MOST_PARTS];
        private final int[] details = new int[MOST_PARTS];
        private final int[] junctions = new int[MOST_JUNCTIONS];
        private final int[] sizes = new int[MOST_ARRAYS];
        private int parts;
        private int joined;
        private int arrays;
        private int parameters;
        private int variables;
        private int branchings;

        void clear() {
            parts = 0;
            joined = 0;
            arrays = 0;
            parameters = 0;
            variables = 0;
            branchings = 0;
        }

        /** Lays a part that takes the tokens of two others (NONE: of none): its number. */
        int lay(int kind, int left, int right, int detail) {
            if (parts >= MOST_PARTS) {
                return NONE;
            }
            kinds[parts] = kind;
            lefts[parts] = left;
            rights[parts] = right;
            details[parts] = detail;
            parts++;
            return parts - 1;
        }

        /** A place, not yet known, that ways can lead to. */
        int junction() {
            if (joined >= MOST_JUNCTIONS) {
                return NONE;
            }
            junctions[joined] = NONE;
            joined++;
            return joined - 1;
        }

        /** The ways to this junction lead here, where a STEP begins. */
        void join(int junction) {
            if (junction >= 0 && junction < joined && junction < MOST_JUNCTIONS) {
                junctions[junction] = parts;
            }
            lay(STEP, NONE, NONE, NONE);
        }

        int leadsTo(int junction) {
            return junction >= 0 && junction < joined && junction < MOST_JUNCTIONS ? junctions[junction] : NONE;
        }

        void addArray(int cells) {
            if (arrays < MOST_ARRAYS) {
                sizes[arrays] = cells;
                arrays++;
            }
        }

        int cellsOf(int array) {
            return array >= 0 && array < arrays && array < MOST_ARRAYS ? sizes[array] : NONE;
        }
    }

    /**
     * Reads one E and lays its parts. What is open waits in a row: a sign of two till its right
     * side is whole, a sign of one (below 0) till its UNARY is, a ( or [ till what ends it.
     */
    private static final class Formula {
        private final Reading reading;
        private final Sight sight;
        private final int[] waiting = new int[MOST_WAITING];
        /** The ARRAY of a [ that waits. */
        private final int[] indexed = new int[MOST_WAITING];
        /** The parts whose tokens no other part takes yet. */
        private final int[] makers = new int[MOST_WAITING + 1];
        private Circuit circuit;
        private int waits;
        private int made;
        private int worked;
        private boolean wanted;

        Formula(Reading reading, Sight sight, Circuit circuit) {
            this.reading = reading;
            this.sight = sight;
            this.circuit = circuit;
        }

        void begin(Circuit fresh) {
            circuit = fresh;
            worked = 0;
        }

        boolean read() {
            waits = 0;
            made = 0;
            wanted = true;
            for (int i = 0; i <= MOST_TOKENS; i++) {
                if (wanted) {
                    if (!readOperand()) {
                        return false;
                    }
                } else {
                    layOnes();
                    int level = levelOf(reading.kind);
                    layTwos(Math.max(level, 1));
                    if (level == 0 && waits == 0) {
                        return true;
                    }
                    if (!(level > 0 ? readTwo() : readClosing())) {
                        return false;
                    }
                }
            }
            return false;
        }

        /** The part that makes the value of the E that was read. */
        int result() {
            return pop();
        }

        /** One of the tokens with which an operand begins; a NAME together with a [ behind it. */
        private boolean readOperand() {
            int kind = reading.kind;
            int place = reading.place;
            long value = reading.value;
            switch (kind) {
                case '(':
                    return reading.enter(kind) && await(kind, NONE);
                case '-':
                case '!':
                case '~':
                    countWorked(place);
                    return reading.enter(kind) && await(-kind, NONE);
                case NUMBER:
                    countWorked(place);
                    reading.advance();
                    layOperand(CONSTANT, NONE, (int) value);
                    return true;
                case NAME:
                    reading.advance();
                    boolean isIndexed = reading.kind == '[';
                    int which = sight.find(value);
                    reading.blame(sight.faultOfUse(which, isIndexed), place);
                    countWorked(place);
                    if (isIndexed) {
                        return reading.enter('[') && await('[', sight.numberOf(which));
                    }
                    layOperand(LOOK, NONE, sight.numberOf(which));
                    return true;
                default:
                    return reading.refuse();
            }
        }

        private boolean readTwo() {
            int kind = reading.kind;
            countWorked(reading.place);
            reading.advance();
            wanted = true;
            return await(kind, NONE);
        }

        private boolean readClosing() {
            boolean isIndex = lastWaiting() == '[';
            if (!reading.pass(isIndex ? ']' : ')')) {
                return false;
            }
            reading.leave();
            waits--;
            if (isIndex && waits >= 0 && waits < MOST_WAITING) {
                layOperand(FETCH, pop(), indexed[waits]);
            }
            return true;
        }

        private void layOperand(int kind, int left, int detail) {
            push(circuit.lay(kind, left, NONE, detail));
            wanted = false;
        }

        /** Lays the signs of one that wait for the UNARY which is whole now. */
        private void layOnes() {
            while (waits > 0 && lastWaiting() < 0) {
                push(circuit.lay(lastWaiting(), pop(), NONE, NONE));
                waits--;
                reading.leave();
            }
        }

        /** Lays the signs of two that wait and bind at least as much as this level. */
        private void layTwos(int level) {
            while (waits > 0 && levelOf(lastWaiting()) >= level) {
                int right = pop();
                int left = pop();
                push(circuit.lay(lastWaiting(), left, right, NONE));
                waits--;
            }
        }

        private void countWorked(int place) {
            worked++;
            reading.blame(worked > MOST_WORKED ? ROOM : 0, place);
        }

        private boolean await(int sign, int array) {
            if (waits < 0 || waits >= MOST_WAITING) {
                return reading.refuse();
            }
            waiting[waits] = sign;
            indexed[waits] = array;
            waits++;
            return true;
        }

        private int lastWaiting() {
            return waits > 0 && waits <= MOST_WAITING ? waiting[waits - 1] : 0;
        }

        private void push(int part) {
            if (made >= 0 && made <= MOST_WAITING) {
                makers[made] = part;
                made++;
            }
        }

        private int pop() {
            if (made <= 0 || made > MOST_WAITING + 1) {
                return NONE;
            }
            made--;
            return makers[made];
        }

        /** How much a sign of two binds; 0 for what is none. */
        private static int levelOf(int sign) {
            switch (sign) {
                case OR:
                    return 1;
                case AND:
                    return 2;
                case '|':
                    return 3;
                case '^':
                    return 4;
                case '&':
                    return 5;
                case EQUAL:
                case UNEQUAL:
                    return 6;
                case '<':
                case AT_MOST:
                case '>':
                case AT_LEAST:
                    return 7;
                case UP:
                case DOWN:
                    return 8;
                case '+':
                case '-':
                    return 9;
                case '*':
                case '/':
                case '%':
                    return 10;
                default:
                    return 0;
            }
        }
    }

    /** Reads a PROGRAM and lays its circuit. Statements call one another; DEEP keeps that low. */
    private static final class Maker {
        private final Reading reading;
        private final Sight sight;
        private final Formula formula;
        private Circuit circuit;
        /** Where continue and break lead; NONE in no while. */
        private int again;
        private int behind;
        /** The NAME that is being told. */
        private long newName;
        private int newPlace;

        Maker(Tokens tokens, Circuit circuit) {
            reading = new Reading(tokens);
            sight = new Sight();
            formula = new Formula(reading, sight, circuit);
            this.circuit = circuit;
        }

        int faultKind() {
            return reading.faultKind;
        }

        int faultPlace() {
            return reading.faultPlace;
        }

        void make(Circuit fresh) {
            circuit = fresh;
            circuit.clear();
            reading.begin();
            sight.known = 0;
            formula.begin(circuit);
            again = NONE;
            behind = NONE;
            if (readArrays() && readParameters()) {
                circuit.lay(STEP, NONE, NONE, NONE);
                if (readBlock() && reading.kind != END) {
                    reading.refuse();
                }
                circuit.lay(ANSWER, circuit.lay(CONSTANT, NONE, NONE, 0), NONE, NONE);
            }
        }

        /** Reads the ARRAYS and the NAME of the function. */
        private boolean readArrays() {
            for (int i = 0; i < MOST_TOKENS; i++) {
                if (!(reading.pass(INT) && readNewName())) {
                    return false;
                }
                if (reading.kind != '[') {
                    sight.tell(newName, FUNCTION, 0);
                    return true;
                }
                reading.blame(circuit.arrays >= MOST_ARRAYS ? ROOM : 0, newPlace);
                sight.tell(newName, ARRAY, circuit.arrays);
                if (!readCells()) {
                    return false;
                }
            }
            return false;
        }

        private boolean readCells() {
            if (!reading.enter('[')) {
                return false;
            }
            long cells = reading.value;
            int place = reading.place;
            if (!reading.pass(NUMBER)) {
                return false;
            }
            reading.blame(cells < 1 || cells > MOST_CELLS ? ROOM : 0, place);
            circuit.addArray((int) cells);
            reading.leave();
            return reading.pass(']') && reading.pass(';');
        }

        private boolean readParameters() {
            if (!reading.enter('(')) {
                return false;
            }
            boolean more = reading.kind != ')';
            for (int i = 0; i < MOST_TOKENS && more; i++) {
                if (!(reading.pass(INT) && readNewName())) {
                    return false;
                }
                reading.blame(circuit.parameters >= MOST_PARAMETERS ? ROOM : 0, newPlace);
                sight.tell(newName, VARIABLE, circuit.variables);
                circuit.parameters++;
                circuit.variables++;
                more = reading.kind == ',';
                if (more) {
                    reading.advance();
                }
            }
            reading.leave();
            return reading.pass(')');
        }

        /** A NAME that is told here and must not be in sight. */
        private boolean readNewName() {
            newName = reading.value;
            newPlace = reading.place;
            if (!reading.pass(NAME)) {
                return false;
            }
            reading.blame(sight.faultOfTelling(newName), newPlace);
            return true;
        }

        private boolean readBlock() {
            if (!reading.enter('{')) {
                return false;
            }
            int outside = sight.known;
            for (int i = 0; i < MOST_TOKENS && reading.kind != '}'; i++) {
                if (!readStatement()) {
                    return false;
                }
            }
            sight.known = outside;
            reading.leave();
            return reading.pass('}');
        }

        private boolean readStatement() {
            switch (reading.kind) {
                case INT:
                    return readTelling();
                case NAME:
                    return readSetting();
                case IF:
                    return readIf();
                case WHILE:
                    return readWhile();
                case BREAK:
                    return readLeap(behind);
                case CONTINUE:
                    return readLeap(again);
                case RETURN:
                    return readReturn();
                case '{':
                    return readBlock();
                default:
                    return reading.refuse();
            }
        }

        /** int NAME = E ; */
        private boolean readTelling() {
            reading.advance();
            if (!readNewName()) {
                return false;
            }
            reading.blame(circuit.variables >= MOST_VARIABLES ? ROOM : 0, newPlace);
            int number = circuit.variables;
            circuit.variables++;
            if (!(reading.pass('=') && formula.read() && reading.pass(';'))) {
                return false;
            }
            circuit.lay(SET, formula.result(), NONE, number);
            sight.tell(newName, VARIABLE, number);
            return true;
        }

        /** NAME = E ;   NAME [ E ] = E ; */
        private boolean readSetting() {
            int which = sight.find(reading.value);
            int place = reading.place;
            reading.advance();
            boolean isIndexed = reading.kind == '[';
            reading.blame(sight.faultOfUse(which, isIndexed), place);
            int index = NONE;
            if (isIndexed) {
                if (!(reading.enter('[') && formula.read() && reading.pass(']'))) {
                    return false;
                }
                reading.leave();
                index = formula.result();
            }
            if (!(reading.pass('=') && formula.read() && reading.pass(';'))) {
                return false;
            }
            int value = formula.result();
            if (isIndexed) {
                circuit.lay(STORE, index, value, sight.numberOf(which));
            } else {
                circuit.lay(SET, value, NONE, sight.numberOf(which));
            }
            return true;
        }

        private boolean readIf() {
            countBranching();
            if (!(reading.enter(IF) && readCondition())) {
                return false;
            }
            int other = circuit.junction();
            circuit.lay(FORK, formula.result(), NONE, other);
            circuit.lay(STEP, NONE, NONE, NONE);
            if (!readBody()) {
                return false;
            }
            if (reading.kind == ELSE) {
                int end = circuit.junction();
                circuit.lay(WIRE, NONE, NONE, end);
                circuit.join(other);
                reading.advance();
                if (!readBody()) {
                    return false;
                }
                circuit.join(end);
            } else {
                circuit.join(other);
            }
            reading.leave();
            return true;
        }

        private boolean readWhile() {
            countBranching();
            if (!reading.enter(WHILE)) {
                return false;
            }
            int outerAgain = again;
            int outerBehind = behind;
            int begin = circuit.junction();
            int end = circuit.junction();
            circuit.join(begin);
            if (!readCondition()) {
                return false;
            }
            circuit.lay(FORK, formula.result(), NONE, end);
            circuit.lay(STEP, NONE, NONE, NONE);
            again = begin;
            behind = end;
            if (!readBody()) {
                return false;
            }
            again = outerAgain;
            behind = outerBehind;
            circuit.lay(WIRE, NONE, NONE, begin);
            circuit.join(end);
            reading.leave();
            return true;
        }

        private void countBranching() {
            reading.blame(circuit.branchings >= MOST_BRANCHINGS ? ROOM : 0, reading.place);
            circuit.branchings++;
        }

        private boolean readCondition() {
            if (!(reading.enter('(') && formula.read())) {
                return false;
            }
            reading.leave();
            return reading.pass(')');
        }

        /** The STATEMENT of an if or while: what it tells is out of sight behind it. */
        private boolean readBody() {
            int outside = sight.known;
            boolean good = readStatement();
            sight.known = outside;
            return good;
        }

        /** break ; or continue ; leads to a junction of the while that it is in. */
        private boolean readLeap(int junction) {
            reading.blame(junction == NONE ? STRAY : 0, reading.place);
            circuit.lay(WIRE, NONE, NONE, junction);
            reading.advance();
            return reading.pass(';');
        }

        private boolean readReturn() {
            reading.advance();
            if (!(formula.read() && reading.pass(';'))) {
                return false;
            }
            circuit.lay(ANSWER, formula.result(), NONE, NONE);
            return true;
        }
    }

    /** The cells, the rows of LATENCIES, and what was asked of the memory in the latest RUN. */
    private static final class Memory {
        private final int[] cells = new int[MOST_ARRAYS * MOST_CELLS];
        private final int[] latencies = new int[MOST_ROWS];
        private final int[] keptArrays = new int[MOST_KEPT];
        private final int[] keptCells = new int[MOST_KEPT];
        private final int[] keptValues = new int[MOST_KEPT];
        private int rows;
        private int reads;
        private int writes;
        private int answered;
        private int early;

        void clear() {
            Arrays.fill(cells, 0);
        }

        void begin() {
            reads = 0;
            writes = 0;
            answered = 0;
        }

        void addRow(int latency) {
            if (rows < MOST_ROWS) {
                latencies[rows] = latency;
                rows++;
            }
        }

        int look(int array, int cell) {
            return isThere(array, cell) ? cells[array * MOST_CELLS + cell] : 0;
        }

        void put(int array, int cell, int value) {
            if (isThere(array, cell)) {
                cells[array * MOST_CELLS + cell] = value;
            }
        }

        int fetch(int array, int cell) {
            reads++;
            return look(array, cell);
        }

        void store(int array, int cell, int value) {
            if (writes < MOST_KEPT) {
                keptArrays[writes] = array;
                keptCells[writes] = cell;
                keptValues[writes] = value;
            }
            writes++;
            put(array, cell, value);
        }

        /** Begins an ACCESS in this cycle: after how many it is answered. */
        int ask(int cycle) {
            if (cycle < answered) {
                early++;
            }
            int row = rows > 0 ? (reads + writes) % rows : NONE;
            int latency = row >= 0 && row < MOST_ROWS ? latencies[row] : 1;
            answered = cycle + latency;
            return latency;
        }

        private static boolean isThere(int array, int cell) {
            return array >= 0 && array < MOST_ARRAYS && cell >= 0 && cell < MOST_CELLS;
        }
    }

    /** Whoever takes the result, but not in a cycle whose bit of the pattern is 1. */
    private static final class Taker {
        private long pattern;
        private int delivered;

        /** Takes a result that is held out from this cycle on: after how many cycles it is gone. */
        int take(int cycle) {
            int waited = 0;
            while (waited < 64 && (pattern >>> ((cycle + waited) % 64) & 1L) == 1L) {
                waited++;
            }
            delivered++;
            return waited + 1;
        }
    }

    /** The circuit at work: its tokens, its variables, and what is told of the latest RUN. */
    private static final class Work {
        private final Memory memory;
        private final Taker taker;
        /** The token that each part has made, and whether it is still there. */
        private final int[] tokens = new int[MOST_PARTS];
        private final boolean[] full = new boolean[MOST_PARTS];
        private final int[] variables = new int[MOST_VARIABLES];
        private Circuit circuit;
        /** The part whose turn it is; NONE when the RUN is over. */
        private int turn;
        private int limit;
        private int held;
        private int answer;
        private int result;
        private int steps;
        private int cycles;
        private int unused;
        private int late;
        private int roomless;

        Work(Memory memory, Taker taker, Circuit circuit) {
            this.memory = memory;
            this.taker = taker;
            this.circuit = circuit;
            answer = NONE;
        }

        /** Nothing was run. */
        void forget() {
            memory.begin();
            taker.delivered = 0;
            answer = NONE;
            result = 0;
            steps = 0;
        }

        int perform(Circuit whole, int[] given, int most) {
            forget();
            begin(whole, given, most);
            int cycle = 0;
            // Cycles in which all wait for the memory or for whoever takes the result are leapt over.
            while (turn != NONE && cycle < MOST_CYCLES) {
                cycle += Math.max(isReady() ? work(cycle) : 1, 1);
            }
            cycles = cycle;
            if (cycles >= MOST_CYCLES) {
                late++;
            }
            if (answer == ENDED) {
                unused += held;
            }
            return answer;
        }

        private void begin(Circuit whole, int[] given, int most) {
            circuit = whole;
            limit = most;
            for (int i = 0; i < circuit.parts && i < MOST_PARTS; i++) {
                full[i] = false;
            }
            for (int i = 0; i < given.length && i < MOST_VARIABLES; i++) {
                variables[i] = given[i];
            }
            held = 0;
            answer = UNENDED;
            turn = 0;
        }

        /** Whether the part whose turn it is has what it wants, and room for what it makes. */
        private boolean isReady() {
            if (turn < 0 || turn >= circuit.parts || turn >= MOST_PARTS || full[turn]) {
                return false;
            }
            int left = circuit.lefts[turn];
            int right = circuit.rights[turn];
            return (left == NONE || isFull(left)) && (right == NONE || isFull(right));
        }

        /** Lets the part whose turn it is work: after how many cycles the next one has its turn. */
        private int work(int cycle) {
            int part = turn;
            int detail = circuit.details[part];
            int a = taken(circuit.lefts[part]);
            int b = taken(circuit.rights[part]);
            int spent = 1;
            turn++;
            switch (circuit.kinds[part]) {
                case CONSTANT:
                    hand(part, detail);
                    break;
                case LOOK:
                    hand(part, isVariable(detail) ? variables[detail] : 0);
                    break;
                case FETCH:
                    spent = memory.ask(cycle);
                    hand(part, memory.fetch(detail, cellOf(detail, a)));
                    break;
                case SET:
                    if (isVariable(detail)) {
                        variables[detail] = a;
                    }
                    break;
                case STORE:
                    spent = memory.ask(cycle);
                    memory.store(detail, cellOf(detail, a), b);
                    break;
                case FORK:
                    turn = a == 0 ? circuit.leadsTo(detail) : turn;
                    break;
                case STEP:
                    beginStep();
                    break;
                case WIRE:
                    turn = circuit.leadsTo(detail);
                    break;
                case ANSWER:
                    spent = taker.take(cycle);
                    result = a;
                    answer = ENDED;
                    turn = NONE;
                    break;
                default:
                    hand(part, worked(circuit.kinds[part], a, b));
                    break;
            }
            return spent;
        }

        private void beginStep() {
            if (steps >= limit) {
                turn = NONE;
            } else {
                steps++;
            }
        }

        private int cellOf(int array, int index) {
            int cells = circuit.cellsOf(array);
            return cells > 0 ? Math.floorMod(index, cells) : NONE;
        }

        private void hand(int part, int value) {
            if (part < 0 || part >= MOST_PARTS || full[part]) {
                roomless++;
                return;
            }
            tokens[part] = value;
            full[part] = true;
            held++;
        }

        private int taken(int part) {
            if (!isFull(part)) {
                return 0;
            }
            full[part] = false;
            held--;
            return tokens[part];
        }

        private boolean isFull(int part) {
            return part >= 0 && part < MOST_PARTS && full[part];
        }

        private static boolean isVariable(int number) {
            return number >= 0 && number < MOST_VARIABLES;
        }

        /** What a sign makes of its two sides, a sign of one of the first. */
        private static int worked(int sign, int a, int b) {
            switch (sign) {
                case NEGATE:
                    return -a;
                case NOT:
                    return truth(a == 0);
                case INVERT:
                    return ~a;
                case OR:
                    return truth(a != 0 || b != 0);
                case AND:
                    return truth(a != 0 && b != 0);
                case '|':
                    return a | b;
                case '^':
                    return a ^ b;
                case '&':
                    return a & b;
                case EQUAL:
                    return truth(a == b);
                case UNEQUAL:
                    return truth(a != b);
                case '<':
                    return truth(a < b);
                case AT_MOST:
                    return truth(a <= b);
                case '>':
                    return truth(a > b);
                case AT_LEAST:
                    return truth(a >= b);
                default:
                    return reckoned(sign, a, b);
            }
        }

        private static int reckoned(int sign, int a, int b) {
            switch (sign) {
                case UP:
                    return a << b;
                case DOWN:
                    return a >> b;
                case '+':
                    return a + b;
                case '-':
                    return a - b;
                case '*':
                    return a * b;
                case '/':
                    return b == 0 ? -1 : a / b;
                case '%':
                    return b == 0 ? a : a % b;
                default:
                    return 0;
            }
        }

        private static int truth(boolean holds) {
            return holds ? 1 : 0;
        }
    }
}
