import java.util.Arrays;

/**
 * A house that compiles: a text is fed to a tape, judged, turned into words for a stack machine and run;
 * beside it stands a board that does words given by hand. The numbered promises are in DOC.md.
 */
public final class CompiledHouse {
    public static final int NONE = -1;

    private static final int MOST_BYTES = 4000;
    private static final int MOST_TOKENS = MOST_BYTES + 1;
    // More different NAMEs than a tape can hold.
    private static final int MOST_NAMES = 1408;
    private static final int MOST_OPEN = 40;
    private static final int MOST_FUNCTIONS = 40;
    private static final int MOST_FORMALS = 4;
    private static final int MOST_ELEMENTS = 500;
    private static final int MOST_GLOBAL_WORDS = 2000;
    private static final int MOST_LOCAL_WORDS = 200;
    private static final int MOST_LIMIT = 2000;
    private static final int FRAME_WORDS = 4;

    // Kinds of tokens. Those that join or change values are opcodes of the machine, too.
    private static final int STOP = -2;
    private static final int END = 0;
    private static final int BAD = 1;
    private static final int NAME = 2;
    private static final int NUMBER = 3;
    private static final int INT = 4;
    private static final int BYTE = 5;
    private static final int VOID = 6;
    private static final int CONST = 7;
    private static final int IF = 8;
    private static final int ELSE = 9;
    private static final int WHILE = 10;
    private static final int DO = 11;
    private static final int FOR = 12;
    private static final int BREAK = 13;
    private static final int CONTINUE = 14;
    private static final int RETURN = 15;
    private static final int PUT = 16;
    private static final int GET = 17;
    private static final int HALT = 18;
    private static final int PAREN = 19;
    private static final int PAREN_END = 20;
    private static final int BRACKET = 21;
    private static final int BRACKET_END = 22;
    private static final int BRACE = 23;
    private static final int BRACE_END = 24;
    private static final int COMMA = 25;
    private static final int SEMICOLON = 26;
    private static final int QUESTION = 27;
    private static final int COLON = 28;
    private static final int ASSIGN = 29;
    private static final int ASSIGN_ADD = 30;
    private static final int ASSIGN_SHIFT_UP = 38;
    private static final int INCREMENT = 41;
    private static final int DECREMENT = 42;
    private static final int EITHER = 43;
    private static final int BOTH = 44;
    private static final int OR = 45;
    private static final int XOR = 46;
    private static final int AND = 47;
    private static final int EQUAL = 48;
    private static final int UNEQUAL = 49;
    private static final int BELOW = 50;
    private static final int AT_MOST = 51;
    private static final int ABOVE = 52;
    private static final int AT_LEAST = 53;
    private static final int SHIFT_UP = 54;
    private static final int SHIFT_DOWN = 55;
    private static final int SHIFT_ZEROS = 56;
    private static final int ADD = 57;
    private static final int SUBTRACT = 58;
    private static final int MULTIPLY = 59;
    private static final int DIVIDE = 60;
    private static final int REST = 61;
    private static final int FLIP = 62;
    private static final int NOT = 63;

    // Opcodes that are no tokens.
    private static final int NEGATE = 64;
    private static final int TRUTH = 65;
    private static final int PUSH = 66;
    private static final int COPY = 67;
    private static final int DROP = 68;
    private static final int LOAD_GLOBAL = 69;
    private static final int LOAD_LOCAL = 70;
    private static final int STORE_GLOBAL = 71;
    private static final int STORE_LOCAL = 72;
    private static final int CLEAR = 73;
    private static final int AT_GLOBAL = 74;
    private static final int AT_LOCAL = 75;
    private static final int AT_PASSED = 76;
    private static final int FETCH_INT = 77;
    private static final int FETCH_BYTE = 78;
    private static final int KEEP_INT = 79;
    private static final int KEEP_BYTE = 80;
    private static final int PASS_GLOBAL = 81;
    private static final int PASS_LOCAL = 82;
    private static final int PASS_PASSED = 83;
    private static final int JUMP = 84;
    private static final int JUMP_IF = 85;
    private static final int JUMP_IF_NOT = 86;
    private static final int JUMP_IF_EITHER = 87;
    private static final int JUMP_IF_NOT_BOTH = 88;
    private static final int TURN = 89;
    private static final int CALL = 90;

    // How a token can be wrong for the grammar.
    private static final int NO_TOKEN = 1;
    private static final int MISPLACED = 2;
    private static final int TOO_DEEP = 3;

    // What a NAME can stand for.
    private static final int A_CONST = 0;
    private static final int AN_INT = 1;
    private static final int INTS = 2;
    private static final int BYTES = 3;
    private static final int FUNCTION = 4;

    // How a run is.
    private static final int NO_RUN = 0;
    private static final int MAY_GO_ON = 1;
    private static final int WAITS = 2;
    private static final int ENDED = 3;
    private static final int HALTED = 4;
    private static final int INDEX = 5;
    private static final int STACK = 6;

    private final Tape tape;
    private final Tokens tokens;
    private final Program program;
    private final Ports ports;
    private final Machine machine;
    private final Grammar grammar;
    private final Board board;

    public CompiledHouse() {
        Code code = new Code();
        tape = new Tape();
        tokens = new Tokens(tape);
        program = new Program();
        ports = new Ports();
        machine = new Machine(code, program, ports);
        Cursor cursor = new Cursor(tokens);
        Judge judge = new Judge(program);
        Expressions expressions = new Expressions(cursor, judge, code, program, machine);
        grammar = new Grammar(cursor, judge, code, program, expressions);
        board = new Board();
    }

    public int feed(int a, int b, int c, int d, int e) {
        if (tape.count > MOST_BYTES - 20) {
            return NONE;
        }
        tape.take(a);
        tape.take(b);
        tape.take(c);
        tape.take(d);
        tape.take(e);
        return tape.count;
    }

    public int end(int n) {
        if (n < 0 || n > tape.count) {
            return NONE;
        }
        tape.count = n;
        return n;
    }

    public int read() {
        machine.forget();
        ports.forgetInput();
        ports.forgetOutput();
        tokens.scan();
        grammar.clear(tokens.mainId());
        int fault = grammar.walk(false);
        if (fault == 0) {
            fault = grammar.walk(true);
        }
        program.there = fault == 0;
        tape.count = 0;
        return fault;
    }

    public int look(int what, int i) {
        if (!program.there) {
            return NONE;
        }
        if (what == 0) {
            return program.functions;
        }
        if (what == 1) {
            return program.words;
        }
        if (i < 0 || i >= program.functions) {
            return NONE;
        }
        switch (what) {
            case 2:
                return program.places[i];
            case 3:
                return program.formalCounts[i];
            case 4:
                return program.measures[i];
            case 5:
                return program.gives(i) ? 1 : 0;
            default:
                return NONE;
        }
    }

    public int give(int n) {
        if (!program.there || !ports.takes(n)) {
            return NONE;
        }
        return ports.waiting;
    }

    public boolean begin(int limit) {
        if (!program.there || limit < FRAME_WORDS || limit > MOST_LIMIT) {
            return false;
        }
        ports.forgetOutput();
        machine.startAnew(limit);
        return true;
    }

    public int run(int turns) {
        if (turns < 0 || turns > 1000 || machine.state == NO_RUN) {
            return NONE;
        }
        machine.goOn(turns);
        return machine.state;
    }

    public int output(int i) {
        return ports.shown(i);
    }

    public int world(int what) {
        switch (what) {
            case 0:
                return machine.state;
            case 1:
                return machine.taken;
            case 2:
                return ports.shownCount;
            case 3:
                return ports.waiting;
            case 4:
                return machine.value;
            case 5:
                return machine.place;
            case 6:
                return machine.depth();
            case 7:
                return machine.limit;
            default:
                return NONE;
        }
    }

    public int global(int i) {
        if (!program.there || i < 0 || i >= program.words) {
            return 0;
        }
        return machine.state == NO_RUN ? program.firstWord(i) : machine.held(i);
    }

    public boolean put(int address, int word) {
        return board.hold(address, word);
    }

    public boolean set(int register, int number) {
        return board.change(register, number);
    }

    public int go(int n) {
        return n < 1 || n > 1000 ? NONE : board.doWords(n);
    }

    public int board(int i) {
        return board.shown(i);
    }

    private static int truth(boolean holds) {
        return holds ? 1 : 0;
    }

    /** What two values become by an operator that wants both. */
    private static int joined(int operator, int a, int b) {
        switch (operator) {
            case OR:
                return a | b;
            case XOR:
                return a ^ b;
            case AND:
                return a & b;
            case EQUAL:
                return a == b ? 1 : 0;
            case UNEQUAL:
                return a != b ? 1 : 0;
            case BELOW:
                return a < b ? 1 : 0;
            case AT_MOST:
                return a <= b ? 1 : 0;
            case ABOVE:
                return a > b ? 1 : 0;
            case AT_LEAST:
                return a >= b ? 1 : 0;
            case SHIFT_UP:
                return a << b;
            case SHIFT_DOWN:
                return a >> b;
            case SHIFT_ZEROS:
                return a >>> b;
            case ADD:
                return a + b;
            case SUBTRACT:
                return a - b;
            case MULTIPLY:
                return a * b;
            case DIVIDE:
                return b == 0 ? -1 : b == -1 ? -a : a / b;
            case REST:
                return b == 0 ? a : b == -1 ? 0 : a % b;
            default:
                return 0;
        }
    }

    /** The bytes that have been fed. */
    private static final class Tape {
        private final byte[] bytes = new byte[MOST_BYTES];
        int count;

        void take(int number) {
            for (int shift = 24; shift >= 0 && count < MOST_BYTES; shift -= 8) {
                bytes[count] = (byte) (number >>> shift);
                count++;
            }
        }

        int at(int i) {
            return i < 0 || i >= count ? NONE : bytes[i] & 255;
        }
    }

    /** The tape's tokens. The last one is END, or BAD where no token begins. */
    private static final class Tokens {
        private static final int LONGEST_NAME = 16;
        private static final int LONGEST_NUMBER = 10;
        private static final int HEADS = 1024;
        private static final long GREATEST = 4294967295L;
        private static final int WORD_WIDTH = 8;
        // In the order of their token kinds, INT first, each in eight columns.
        private static final String WORDS =
                "int     byte    void    const   if      else    while   do      for     break   continuereturn  put     get     halt    ";
        private static final String SIGNS = "()[]{},;?:=+-*/%&|^<>~!";
        private static final int[] ALONE = {
            PAREN, PAREN_END, BRACKET, BRACKET_END, BRACE, BRACE_END, COMMA, SEMICOLON, QUESTION, COLON, ASSIGN,
            ADD, SUBTRACT, MULTIPLY, DIVIDE, REST, AND, OR, XOR, BELOW, ABOVE, FLIP, NOT};
        // The kinds of a sign with itself, and with = , right behind; 0 where there is none.
        private static final int[] TWICE = {
            0, 0, 0, 0, 0, 0, 0, 0, 0, 0, EQUAL,
            INCREMENT, DECREMENT, 0, 0, 0, BOTH, EITHER, 0, SHIFT_UP, SHIFT_DOWN, 0, 0};
        private static final int[] WITH_EQUALS = {
            0, 0, 0, 0, 0, 0, 0, 0, 0, 0, 0,
            30, 31, 32, 33, 34, 35, 36, 37, AT_MOST, AT_LEAST, 0, UNEQUAL};

        private final Tape tape;
        private final int[] kinds = new int[MOST_TOKENS];
        private final int[] values = new int[MOST_TOKENS];
        private final int[] places = new int[MOST_TOKENS];
        private int count;
        private final int[] heads = new int[HEADS];
        private final int[] others = new int[MOST_NAMES];
        private final int[] nameStarts = new int[MOST_NAMES];
        private final int[] nameLengths = new int[MOST_NAMES];
        private int names;

        Tokens(Tape tape) {
            this.tape = tape;
        }

        int kind(int i) {
            return i < 0 || i >= count ? END : kinds[i];
        }

        void scan() {
            count = 0;
            names = 0;
            Arrays.fill(heads, NONE);
            int at = 0;
            for (int n = 0; n < MOST_TOKENS && at < tape.count; n++) {
                at = behindGap(at);
                if (at < tape.count) {
                    at = behindToken(at);
                }
                if (at == NONE) {
                    return;
                }
            }
            add(END, 0, tape.count);
        }

        /** The number of the NAME main, or NONE if the text has none. */
        int mainId() {
            int id = NONE;
            for (int n = 0; n < names && id == NONE; n++) {
                int at = nameStarts[n];
                if (nameLengths[n] == 4 && tape.at(at) == 'm' && tape.at(at + 1) == 'a'
                        && tape.at(at + 2) == 'i' && tape.at(at + 3) == 'n') {
                    id = n;
                }
            }
            return id;
        }

        private void add(int kind, int value, int place) {
            if (count < MOST_TOKENS) {
                kinds[count] = kind;
                values[count] = value;
                places[count] = place;
                count++;
            }
        }

        private int behindGap(int start) {
            int at = start;
            for (int n = 0; n < MOST_BYTES && at < tape.count; n++) {
                int c = tape.at(at);
                int next = tape.at(at + 1);
                if (c == 10 || c == 32) {
                    at++;
                } else if (c == '/' && next == '/') {
                    at = behindLine(at);
                } else if (c == '/' && next == '*') {
                    int behind = behindNote(at);
                    if (behind == NONE) {
                        // The / is left to be told as a token that none is.
                        return at;
                    }
                    at = behind;
                } else {
                    return at;
                }
            }
            return at;
        }

        private int behindLine(int start) {
            int at = start;
            while (at < tape.count && tape.at(at) != 10) {
                at++;
            }
            return at;
        }

        private int behindNote(int start) {
            for (int at = start + 2; at < tape.count; at++) {
                if (tape.at(at) == '*' && tape.at(at + 1) == '/') {
                    return at + 2;
                }
            }
            return NONE;
        }

        private int behindToken(int at) {
            int c = tape.at(at);
            int behind;
            if (isDigit(c)) {
                behind = behindNumber(at);
            } else if (isPart(c)) {
                behind = behindName(at);
            } else {
                behind = behindSign(at, c);
            }
            if (behind == NONE) {
                add(BAD, 0, at);
            }
            return behind;
        }

        private static boolean isDigit(int c) {
            return c >= '0' && c <= '9';
        }

        private static boolean isPart(int c) {
            return isDigit(c) || c >= 'a' && c <= 'z' || c >= 'A' && c <= 'Z' || c == '_';
        }

        private int behindParts(int start) {
            int at = start;
            while (at < tape.count && isPart(tape.at(at))) {
                at++;
            }
            return at;
        }

        private int behindName(int at) {
            int behind = behindParts(at);
            int length = behind - at;
            if (length > LONGEST_NAME) {
                return NONE;
            }
            int word = wordAt(at, length);
            if (word != NONE) {
                add(word, 0, at);
            } else {
                add(NAME, nameAt(at, length), at);
            }
            return behind;
        }

        private int wordAt(int at, int length) {
            for (int kind = INT; kind <= HALT && length <= WORD_WIDTH; kind++) {
                int column = (kind - INT) * WORD_WIDTH;
                boolean same = length == WORD_WIDTH || WORDS.charAt(column + length) == ' ';
                for (int i = 0; i < length && same; i++) {
                    same = WORDS.charAt(column + i) == tape.at(at + i);
                }
                if (same) {
                    return kind;
                }
            }
            return NONE;
        }

        private int nameAt(int at, int length) {
            int sum = length;
            for (int i = 0; i < length; i++) {
                sum = sum * 31 + tape.at(at + i);
            }
            int head = (sum ^ sum >>> 10) & HEADS - 1;
            int id = heads[head];
            for (int n = 0; n < names && id >= 0 && id < MOST_NAMES; n++) {
                if (isName(id, at, length)) {
                    return id;
                }
                id = others[id];
            }
            if (names >= MOST_NAMES) {
                return 0;
            }
            nameStarts[names] = at;
            nameLengths[names] = length;
            others[names] = heads[head];
            heads[head] = names;
            names++;
            return names - 1;
        }

        private boolean isName(int id, int at, int length) {
            boolean same = nameLengths[id] == length;
            for (int i = 0; i < length && same; i++) {
                same = tape.at(nameStarts[id] + i) == tape.at(at + i);
            }
            return same;
        }

        private int behindNumber(int at) {
            int behind = behindParts(at);
            boolean hexadecimal = tape.at(at) == '0' && tape.at(at + 1) == 'x';
            int first = hexadecimal ? at + 2 : at;
            int base = hexadecimal ? 16 : 10;
            int digits = behind - first;
            if (digits < 1 || digits > (hexadecimal ? 8 : LONGEST_NUMBER)) {
                return NONE;
            }
            long number = 0;
            for (int i = first; i < behind; i++) {
                int digit = digitOf(tape.at(i));
                if (digit >= base) {
                    return NONE;
                }
                number = number * base + digit;
            }
            if (number > GREATEST) {
                return NONE;
            }
            add(NUMBER, (int) number, at);
            return behind;
        }

        private static int digitOf(int c) {
            if (isDigit(c)) {
                return c - '0';
            }
            if (c >= 'a' && c <= 'f') {
                return c - 'a' + 10;
            }
            return c >= 'A' && c <= 'F' ? c - 'A' + 10 : 16;
        }

        private int behindSign(int at, int c) {
            int i = SIGNS.indexOf((char) c);
            int behind = at + 1;
            int next = tape.at(behind);
            if (i < 0 || i >= ALONE.length || c == '/' && next == '*') {
                return NONE;
            }
            int kind = ALONE[i];
            if (next == c && TWICE[i] != 0) {
                kind = TWICE[i];
                behind++;
                if (kind == SHIFT_DOWN && tape.at(behind) == c) {
                    kind = SHIFT_ZEROS;
                    behind++;
                }
                if (kind >= SHIFT_UP && kind <= SHIFT_ZEROS && tape.at(behind) == '=') {
                    kind = kind - SHIFT_UP + ASSIGN_SHIFT_UP;
                    behind++;
                }
            } else if (next == '=' && WITH_EQUALS[i] != 0) {
                kind = WITH_EQUALS[i];
                behind++;
            }
            add(kind, 0, at);
            return behind;
        }
    }

    /** Where the grammar stands in the tokens. Behind a fault every token is STOP, which fits nowhere. */
    private static final class Cursor {
        private final Tokens tokens;
        private int at;
        private int opened;
        int kind;
        int value;
        int place;
        int fault;

        Cursor(Tokens tokens) {
            this.tokens = tokens;
        }

        void start() {
            opened = 0;
            fault = 0;
            comeTo(0);
        }

        /** Whether the token is a NAME that is all of an E of a CALL. */
        boolean isNameAlone() {
            int behind = tokens.kind(at + 1);
            return kind == NAME && (behind == COMMA || behind == PAREN_END);
        }

        void next() {
            if (fault == 0) {
                comeTo(at + 1);
            }
        }

        private void comeTo(int i) {
            if (i < 0 || i >= tokens.count) {
                return;
            }
            at = i;
            kind = tokens.kinds[i];
            value = tokens.values[i];
            place = tokens.places[i];
            if (kind == BAD) {
                fault = place * 16 + NO_TOKEN;
                kind = STOP;
            }
        }

        void fail(int why) {
            if (fault == 0) {
                fault = place * 16 + why;
            }
            kind = STOP;
        }

        void expect(int wanted) {
            if (kind == wanted) {
                comeTo(at + 1);
            } else {
                fail(MISPLACED);
            }
        }

        /** Goes behind a token that is open from now on; false if it can't stand here. */
        boolean opens(int wanted) {
            if (kind != wanted) {
                fail(MISPLACED);
                return false;
            }
            if (opened >= MOST_OPEN) {
                fail(TOO_DEEP);
                return false;
            }
            opened++;
            comeTo(at + 1);
            return true;
        }

        void closes() {
            opened--;
        }

        void closesWith(int wanted) {
            opened--;
            if (kind == wanted) {
                comeTo(at + 1);
            } else {
                fail(MISPLACED);
            }
        }
    }

    /** The words of the machine. Nothing comes while it is off. */
    private static final class Code {
        // No text makes more than two words of each of its bytes.
        private static final int MOST = 8400;
        private final int[] words = new int[MOST];
        int count;
        boolean on;

        void add(int word) {
            if (on && count < MOST) {
                words[count] = word;
                count++;
            }
        }

        void addPair(int operation, int operand) {
            if (on && count < MOST - 1) {
                words[count] = operation;
                words[count + 1] = operand;
                count += 2;
            }
        }

        /** A jump whose aim is not known yet, chained to another one: where its aim will stand. */
        int addJump(int operation, int other) {
            if (!on || count >= MOST - 1) {
                return NONE;
            }
            words[count] = operation;
            words[count + 1] = other;
            count += 2;
            return count - 1;
        }

        /** All jumps of a chain go to this word. */
        void aim(int chain, int target) {
            int hole = chain;
            for (int n = 0; n < MOST && hole >= 0 && hole < count; n++) {
                int other = words[hole];
                words[hole] = target;
                hole = other;
            }
        }

        void cut(int length) {
            if (length >= 0 && length < count) {
                count = length;
            }
        }
    }

    /** What a text has become beside its code. */
    private static final class Program {
        // All functions and FORMALs that a tape can hold: those beyond the limits may be called, too.
        private static final int ROOM_FOR_FUNCTIONS = 450;
        private static final int ROOM_FOR_FORMALS = 700;
        boolean there;
        int functions;
        int words;
        int main;
        final int[] places = new int[ROOM_FOR_FUNCTIONS];
        final int[] formalCounts = new int[ROOM_FOR_FUNCTIONS];
        final int[] measures = new int[ROOM_FOR_FUNCTIONS];
        final int[] entries = new int[ROOM_FOR_FUNCTIONS];
        final int[] formalWords = new int[ROOM_FOR_FUNCTIONS];
        private final int[] results = new int[ROOM_FOR_FUNCTIONS];
        private final int[] formalStarts = new int[ROOM_FOR_FUNCTIONS];
        private final int[] formalKinds = new int[ROOM_FOR_FORMALS];
        private int formals;
        private final int[] firstWords = new int[MOST_GLOBAL_WORDS];

        void clear() {
            there = false;
            functions = 0;
            words = 0;
            main = NONE;
            formals = 0;
            Arrays.fill(firstWords, 0);
        }

        boolean has(int f) {
            return f >= 0 && f < functions;
        }

        void addFunction(int place, boolean gives) {
            if (functions < ROOM_FOR_FUNCTIONS) {
                places[functions] = place;
                results[functions] = truth(gives);
                formalStarts[functions] = formals;
                formalCounts[functions] = 0;
                formalWords[functions] = 0;
                measures[functions] = FRAME_WORDS;
                entries[functions] = 0;
                functions++;
            }
        }

        /** One FORMAL more of the last function. */
        void addFormal(int kind) {
            if (formals < ROOM_FOR_FORMALS && has(functions - 1)) {
                formalKinds[formals] = kind;
                formals++;
                formalCounts[functions - 1]++;
                formalWords[functions - 1] += kind == AN_INT ? 1 : 2;
            }
        }

        boolean gives(int f) {
            return f >= 0 && f < functions && results[f] == 1;
        }

        /** What FORMAL i of a function is, or NONE. */
        int formalKind(int f, int i) {
            if (!has(f) || i < 0 || i >= formalCounts[f]) {
                return NONE;
            }
            int at = formalStarts[f] + i;
            return at < ROOM_FOR_FORMALS ? formalKinds[at] : NONE;
        }

        int firstWord(int i) {
            return i < 0 || i >= MOST_GLOBAL_WORDS ? 0 : firstWords[i];
        }

        void tellInt(int i, int value) {
            if (i >= 0 && i < MOST_GLOBAL_WORDS) {
                firstWords[i] = value;
            }
        }

        void tellByte(int base, int i, int value) {
            int word = base + (i >> 2);
            int shift = (i & 3) * 8;
            tellInt(word, firstWord(word) & ~(255 << shift) | (value & 255) << shift);
        }
    }

    /** What NAMEs mean, and the first fault of those that a right grammar leaves. */
    private static final class Judge {
        // The order in which faults of one place count, and the kinds that they bear.
        static final int UNKNOWN = 0;
        static final int TOLD_TWICE = 1;
        static final int WRONG_ARGUMENT = 2;
        static final int RETURNED = 3;
        static final int MISUSED = 4;
        static final int NO_VALUE = 5;
        static final int NO_LOOP = 6;
        static final int NOT_CONSTANT = 7;
        static final int TOO_MUCH = 8;
        static final int WRONG_MAIN = 9;
        private static final int[] FAULT_KINDS = {4, 5, 7, 8, 6, 8, 9, 10, 11, 12};
        private static final int MOST_SYMBOLS = 700;

        private final Program program;
        private final int[] ids = new int[MOST_SYMBOLS];
        private final int[] levels = new int[MOST_SYMBOLS];
        private final int[] kinds = new int[MOST_SYMBOLS];
        private final int[] places = new int[MOST_SYMBOLS];
        private final int[] values = new int[MOST_SYMBOLS];
        private final int[] sizes = new int[MOST_SYMBOLS];
        private final int[] hidden = new int[MOST_SYMBOLS];
        private final int[] latest = new int[MOST_NAMES];
        private int count;
        private int level;
        private int faultPlace;
        private int faultRank;
        boolean on;
        boolean inConstant;
        private boolean clean;
        boolean gives;
        private int formalWords;
        private int localWords;

        Judge(Program program) {
            this.program = program;
        }

        void clear() {
            count = 0;
            level = 0;
            faultPlace = MOST_BYTES + 1;
            faultRank = 0;
            on = false;
            inConstant = false;
            clean = true;
            Arrays.fill(latest, NONE);
        }

        int fault() {
            return faultPlace > MOST_BYTES ? 0 : faultPlace * 16 + FAULT_KINDS[faultRank];
        }

        void note(int rank, int place) {
            if (!on || rank < 0 || rank >= FAULT_KINDS.length) {
                return;
            }
            clean = false;
            if (place < faultPlace || place == faultPlace && rank < faultRank) {
                faultPlace = place;
                faultRank = rank;
            }
        }

        int kind(int symbol) {
            return symbol < 0 || symbol >= count ? NONE : kinds[symbol];
        }

        int value(int symbol) {
            return symbol < 0 || symbol >= count ? 0 : values[symbol];
        }

        int size(int symbol) {
            return symbol < 0 || symbol >= count ? 0 : sizes[symbol];
        }

        boolean isGlobal(int symbol) {
            return symbol >= 0 && symbol < count && levels[symbol] == 0;
        }

        private int known(int id) {
            return id < 0 || id >= MOST_NAMES ? NONE : latest[id];
        }

        /** What a NAME means here, or NONE. */
        int meant(int id, int place) {
            if (!on) {
                return NONE;
            }
            int symbol = known(id);
            if (symbol == NONE) {
                note(UNKNOWN, place);
            }
            return symbol;
        }

        private void install(int id, int place, int kind, int value, int size) {
            if (count < MOST_SYMBOLS && id >= 0 && id < MOST_NAMES) {
                ids[count] = id;
                levels[count] = level;
                kinds[count] = kind;
                places[count] = place;
                values[count] = value;
                sizes[count] = size;
                hidden[count] = latest[id];
                latest[id] = count;
                count++;
            }
        }

        /** Functions are known everywhere, so they are told ahead of all else. */
        void announce(int id, int place, int function) {
            if (known(id) == NONE) {
                install(id, place, FUNCTION, function, 0);
            }
        }

        void tellFunction(int id, int place, int function) {
            int symbol = known(id);
            if (kind(symbol) != FUNCTION || value(symbol) != function) {
                note(TOLD_TWICE, place);
            }
            if (function >= MOST_FUNCTIONS) {
                note(TOO_MUCH, place);
            }
        }

        void tell(int id, int place, int kind, int value, int size) {
            if (!on) {
                return;
            }
            int symbol = known(id);
            boolean here = symbol >= 0 && symbol < count && levels[symbol] == level;
            boolean later = here && kinds[symbol] == FUNCTION && places[symbol] > place;
            if (here && !later) {
                note(TOLD_TWICE, place);
            } else {
                install(id, place, kind, value, size);
            }
        }

        void enter() {
            level++;
        }

        void leave() {
            for (int n = count - 1; n >= 0 && levels[n] == level; n--) {
                int id = ids[n];
                if (id >= 0 && id < MOST_NAMES) {
                    latest[id] = hidden[n];
                }
                count = n;
            }
            level--;
        }

        void enterFunction(boolean givesValue) {
            gives = givesValue;
            formalWords = 0;
            localWords = 0;
            enter();
        }

        int measure() {
            return FRAME_WORDS + formalWords + localWords;
        }

        void tellFormal(int id, int place, int kind) {
            int offset = measure();
            formalWords += kind == AN_INT ? 1 : 2;
            tell(id, place, kind, offset, 0);
        }

        /** Room for WORDS told in a function: where they begin in its frame. */
        int localRoom(int words, int place) {
            int offset = measure();
            localWords += words;
            if (localWords > MOST_LOCAL_WORDS) {
                note(TOO_MUCH, place);
            }
            return offset;
        }

        /** Room for WORDS told outside of functions: the first of them. */
        int globalRoom(int words, int place) {
            int first = program.words;
            if (on) {
                program.words += words;
                if (program.words > MOST_GLOBAL_WORDS) {
                    note(TOO_MUCH, place);
                }
            }
            return first;
        }

        void startConstant() {
            inConstant = true;
            clean = true;
        }

        /** Whether a CONSTANT that is over has a value. */
        boolean endsConstant() {
            inConstant = false;
            return on && clean;
        }

        /** How many elements an array of n gets: none if there can't be so many. */
        int elements(int n, int place) {
            if (n < 1 || n > MOST_ELEMENTS) {
                note(NOT_CONSTANT, place);
                return 0;
            }
            return n;
        }

        /** A NAME whose value is wanted, with what stands behind it. */
        void wantValue(int symbol, int place, int behind) {
            int kind = kind(symbol);
            if (kind == NONE) {
                return;
            }
            if (inConstant && (kind != A_CONST || behind == PAREN || behind == BRACKET)) {
                note(NOT_CONSTANT, place);
            }
            if (!inConstant && !fits(kind == A_CONST ? AN_INT : kind, behind)) {
                note(MISUSED, place);
            }
            if (kind == FUNCTION && !program.gives(values[symbol])) {
                note(NO_VALUE, place);
            }
        }

        /** A NAME that is called or changed, with what stands behind it. */
        void wantPlace(int symbol, int place, int behind) {
            int kind = kind(symbol);
            if (kind != NONE && !fits(kind, behind)) {
                note(MISUSED, place);
            }
        }

        /** The NAME alone where a FORMAL is an array. */
        void wantArray(int symbol, int place, int wanted) {
            if (kind(symbol) != wanted) {
                note(WRONG_ARGUMENT, place);
            }
        }

        private static boolean fits(int kind, int behind) {
            if (behind == PAREN) {
                return kind == FUNCTION;
            }
            return behind == BRACKET ? kind == INTS || kind == BYTES : kind == AN_INT;
        }
    }

    /** Reads the E's and writes their code: each leaves one value more on the stack. */
    private static final class Expressions {
        // How strongly the operators from EITHER to REST bind; those ahead of an operand bind most.
        private static final int[] STRENGTHS = {1, 2, 3, 4, 5, 6, 6, 7, 7, 7, 7, 8, 8, 8, 9, 9, 10, 10, 10};
        private static final int STRONGEST = 11;

        private final Cursor cursor;
        private final Judge judge;
        private final Code code;
        private final Program program;
        private final Machine machine;
        // Operators that wait for their right operand, of all E's that are open; below || and && their jump.
        private final int[] operators = new int[MOST_TOKENS];
        private int waiting;

        Expressions(Cursor cursor, Judge judge, Code code, Program program, Machine machine) {
            this.cursor = cursor;
            this.judge = judge;
            this.code = code;
            this.program = program;
            this.machine = machine;
        }

        void start() {
            waiting = 0;
        }

        /** The value of a CONSTANT. */
        int constant() {
            int from = code.count;
            judge.startConstant();
            expression();
            int value = judge.endsConstant() ? machine.valueFrom(from) : 0;
            code.cut(from);
            return value;
        }

        /** How many elements the CONSTANT in the [ ] here tells; 0 if it can't be so many. */
        int arraySize() {
            if (!cursor.opens(BRACKET)) {
                return 0;
            }
            int place = cursor.place;
            int from = code.count;
            judge.startConstant();
            expression();
            int size = judge.endsConstant() ? judge.elements(machine.valueFrom(from), place) : 0;
            code.cut(from);
            cursor.closesWith(BRACKET_END);
            return size;
        }

        void expression() {
            joinedOperands();
            if (cursor.kind != QUESTION || !cursor.opens(QUESTION)) {
                return;
            }
            int otherwise = code.addJump(JUMP_IF_NOT, NONE);
            expression();
            cursor.expect(COLON);
            int over = code.addJump(JUMP, NONE);
            code.aim(otherwise, code.count);
            expression();
            code.aim(over, code.count);
            cursor.closes();
        }

        private void joinedOperands() {
            int base = waiting;
            boolean more = true;
            for (int n = 0; n < MOST_TOKENS && more; n++) {
                for (int k = 0; k < MOST_TOKENS && isAhead(cursor.kind); k++) {
                    waits(cursor.kind == SUBTRACT ? NEGATE : cursor.kind);
                    cursor.next();
                }
                operand();
                more = cursor.kind >= EITHER && cursor.kind <= REST;
                if (more) {
                    settle(base, strength(cursor.kind));
                    waits(cursor.kind);
                    cursor.next();
                }
            }
            settle(base, 0);
        }

        private static boolean isAhead(int kind) {
            return kind == SUBTRACT || kind == FLIP || kind == NOT;
        }

        private static int strength(int operator) {
            int i = operator - EITHER;
            return i < 0 || i >= STRENGTHS.length ? STRONGEST : STRENGTHS[i];
        }

        private void waits(int operator) {
            if (waiting >= MOST_TOKENS - 1) {
                return;
            }
            if (operator == EITHER || operator == BOTH) {
                operators[waiting] = code.addJump(operator == EITHER ? JUMP_IF_EITHER : JUMP_IF_NOT_BOTH, NONE);
                waiting++;
            }
            operators[waiting] = operator;
            waiting++;
        }

        /** The operators above base that bind at least so strongly have their right operand now. */
        private void settle(int base, int least) {
            for (int n = 0; n < MOST_TOKENS && waiting > base && waiting > 0; n++) {
                int operator = operators[waiting - 1];
                if (strength(operator) < least) {
                    return;
                }
                waiting--;
                if ((operator == EITHER || operator == BOTH) && waiting > 0) {
                    waiting--;
                    code.add(TRUTH);
                    code.aim(operators[waiting], code.count);
                } else {
                    code.add(operator);
                }
            }
        }

        private void operand() {
            switch (cursor.kind) {
                case NUMBER:
                    code.addPair(PUSH, cursor.value);
                    cursor.next();
                    break;
                case NAME:
                    named();
                    break;
                case GET:
                    if (judge.inConstant) {
                        judge.note(Judge.NOT_CONSTANT, cursor.place);
                    }
                    cursor.next();
                    if (cursor.opens(PAREN)) {
                        cursor.closesWith(PAREN_END);
                    }
                    code.add(GET);
                    break;
                case PAREN:
                    if (cursor.opens(PAREN)) {
                        expression();
                        cursor.closesWith(PAREN_END);
                    }
                    break;
                default:
                    cursor.fail(MISPLACED);
            }
        }

        private void named() {
            int place = cursor.place;
            int symbol = judge.meant(cursor.value, place);
            cursor.next();
            judge.wantValue(symbol, place, cursor.kind);
            if (cursor.kind == PAREN) {
                call(symbol, place);
            } else if (cursor.kind == BRACKET) {
                index(symbol);
                fetch(symbol);
            } else {
                load(symbol);
            }
        }

        /** Leaves the address of the element whose index stands in the [ ] here. */
        void index(int symbol) {
            int place = cursor.place;
            if (!cursor.opens(BRACKET)) {
                return;
            }
            expression();
            cursor.closesWith(BRACKET_END);
            boolean passed = judge.size(symbol) == 0;
            code.addPair(passed ? AT_PASSED : judge.isGlobal(symbol) ? AT_GLOBAL : AT_LOCAL, judge.value(symbol));
            code.add(judge.size(symbol));
            code.add(judge.kind(symbol) == BYTES ? 2 : 0);
            code.add(place);
        }

        void fetch(int symbol) {
            code.add(judge.kind(symbol) == BYTES ? FETCH_BYTE : FETCH_INT);
        }

        void keep(int symbol) {
            code.add(judge.kind(symbol) == BYTES ? KEEP_BYTE : KEEP_INT);
        }

        void load(int symbol) {
            if (judge.kind(symbol) == AN_INT) {
                code.addPair(judge.isGlobal(symbol) ? LOAD_GLOBAL : LOAD_LOCAL, judge.value(symbol));
            } else {
                code.addPair(PUSH, judge.value(symbol));
            }
        }

        void store(int symbol) {
            code.addPair(judge.isGlobal(symbol) ? STORE_GLOBAL : STORE_LOCAL, judge.value(symbol));
        }

        /** Leaves where an array begins and how many elements it has. */
        private void pass(int symbol) {
            boolean passed = judge.size(symbol) == 0;
            code.addPair(passed ? PASS_PASSED : judge.isGlobal(symbol) ? PASS_GLOBAL : PASS_LOCAL, judge.value(symbol));
            code.add(judge.size(symbol));
        }

        /** A CALL from its ( on. */
        void call(int symbol, int place) {
            boolean isFunction = judge.kind(symbol) == FUNCTION;
            int function = isFunction ? judge.value(symbol) : NONE;
            if (!cursor.opens(PAREN)) {
                return;
            }
            int given = 0;
            boolean more = cursor.kind != PAREN_END;
            for (int n = 0; n < MOST_TOKENS && more; n++) {
                int wanted = isFunction ? program.formalKind(function, n) : AN_INT;
                if (wanted > AN_INT && cursor.isNameAlone()) {
                    int array = judge.meant(cursor.value, cursor.place);
                    judge.wantArray(array, cursor.place, wanted);
                    pass(array);
                    cursor.next();
                } else {
                    if (wanted != AN_INT) {
                        judge.note(Judge.WRONG_ARGUMENT, cursor.place);
                    }
                    expression();
                }
                given++;
                more = cursor.kind == COMMA;
                if (more) {
                    cursor.next();
                }
            }
            if (isFunction && program.formalKind(function, given) != NONE) {
                judge.note(Judge.WRONG_ARGUMENT, cursor.place);
            }
            cursor.closesWith(PAREN_END);
            code.addPair(CALL, function);
            code.add(place);
        }
    }

    /** Reads TOLDs and STATEMENTs: once for the grammar alone, once more to judge and to write the code. */
    private static final class Grammar {
        // The operators of the signs from ASSIGN_ADD to DECREMENT.
        private static final int[] JOINED_BY = {
            ADD, SUBTRACT, MULTIPLY, DIVIDE, REST, AND, OR, XOR, SHIFT_UP, SHIFT_DOWN, SHIFT_ZEROS, ADD, SUBTRACT};

        private final Cursor cursor;
        private final Judge judge;
        private final Code code;
        private final Program program;
        private final Expressions expressions;
        private int mainId;
        private int seen;
        private int loops;
        // Jumps out of the innermost loop, and to its next time.
        private int breaks;
        private int continues;

        Grammar(Cursor cursor, Judge judge, Code code, Program program, Expressions expressions) {
            this.cursor = cursor;
            this.judge = judge;
            this.code = code;
            this.program = program;
            this.expressions = expressions;
        }

        void clear(int idOfMain) {
            mainId = idOfMain;
            program.clear();
            judge.clear();
            code.count = 0;
        }

        /** Goes through the text, for the grammar or to judge it: 0, or the fault. */
        int walk(boolean judging) {
            start(judging);
            for (int n = 0; n < MOST_TOKENS && cursor.kind != END && cursor.kind != STOP; n++) {
                boolean isConst = cursor.kind == CONST;
                if (isConst) {
                    cursor.next();
                }
                int word = kindWord(isConst);
                int id = cursor.value;
                int place = cursor.place;
                cursor.expect(NAME);
                if (isConst) {
                    constTold(id, place);
                } else if (cursor.kind == PAREN && word != BYTE) {
                    startFunction(id, place, word == INT);
                    formals(id == mainId);
                    block();
                    endFunction();
                } else if (cursor.kind == BRACKET && word != VOID) {
                    globalArray(id, place, word == INT ? INTS : BYTES);
                } else if (word == INT) {
                    globalInt(id, place);
                } else {
                    cursor.fail(MISPLACED);
                }
            }
            if (program.main == NONE) {
                judge.note(Judge.WRONG_MAIN, cursor.place);
            }
            return judging ? judge.fault() : cursor.fault;
        }

        private void start(boolean judging) {
            seen = 0;
            loops = 0;
            breaks = NONE;
            continues = NONE;
            judge.level = 0;
            judge.on = judging;
            code.on = judging;
            expressions.start();
            cursor.start();
        }

        /** The WORD that a TOLD begins with, or has behind const. */
        private int kindWord(boolean isConst) {
            int word = cursor.kind;
            if (word == INT || !isConst && (word == BYTE || word == VOID)) {
                cursor.next();
            } else {
                cursor.fail(MISPLACED);
            }
            return word;
        }

        private void constTold(int id, int place) {
            cursor.expect(ASSIGN);
            int value = expressions.constant();
            cursor.expect(SEMICOLON);
            judge.tell(id, place, A_CONST, value, 0);
        }

        private void globalInt(int id, int place) {
            int value = 0;
            if (cursor.kind == ASSIGN) {
                cursor.next();
                value = expressions.constant();
            }
            cursor.expect(SEMICOLON);
            int word = judge.globalRoom(1, place);
            program.tellInt(word, value);
            judge.tell(id, place, AN_INT, word, 0);
        }

        private void globalArray(int id, int place, int kind) {
            int size = expressions.arraySize();
            int first = judge.globalRoom(wordsOf(kind, size), place);
            if (cursor.kind == ASSIGN) {
                cursor.next();
                elements(kind, first, size);
            }
            cursor.expect(SEMICOLON);
            judge.tell(id, place, kind, first, size);
        }

        private static int wordsOf(int kind, int size) {
            return kind == INTS ? size : (size + 3) / 4;
        }

        private void elements(int kind, int first, int size) {
            if (!cursor.opens(BRACE)) {
                return;
            }
            boolean more = true;
            for (int n = 0; n < MOST_TOKENS && more; n++) {
                int place = cursor.place;
                int value = expressions.constant();
                if (n >= size) {
                    judge.note(Judge.NOT_CONSTANT, place);
                } else if (kind == INTS) {
                    program.tellInt(first + n, value);
                } else {
                    program.tellByte(first, n, value);
                }
                more = cursor.kind == COMMA;
                if (more) {
                    cursor.next();
                }
            }
            cursor.closesWith(BRACE_END);
        }

        private void startFunction(int id, int place, boolean gives) {
            if (judge.on) {
                judge.tellFunction(id, place, seen);
            } else {
                program.addFunction(place, gives);
                judge.announce(id, place, seen);
                if (id == mainId && program.main == NONE) {
                    program.main = seen;
                }
            }
            if (program.has(seen)) {
                program.entries[seen] = code.count;
            }
            judge.enterFunction(gives);
        }

        private void endFunction() {
            code.addPair(PUSH, 0);
            code.add(RETURN);
            if (judge.on && program.has(seen)) {
                program.measures[seen] = judge.measure();
            }
            judge.leave();
            seen++;
        }

        private void formals(boolean ofMain) {
            if (!cursor.opens(PAREN)) {
                return;
            }
            boolean more = cursor.kind != PAREN_END;
            for (int n = 0; n < MOST_TOKENS && more; n++) {
                formal(n, ofMain);
                more = cursor.kind == COMMA;
                if (more) {
                    cursor.next();
                }
            }
            cursor.closesWith(PAREN_END);
        }

        private void formal(int n, boolean ofMain) {
            int word = cursor.kind;
            if (word != INT && word != BYTE) {
                cursor.fail(MISPLACED);
                return;
            }
            if (ofMain) {
                judge.note(Judge.WRONG_MAIN, cursor.place);
            }
            cursor.next();
            int id = cursor.value;
            int place = cursor.place;
            cursor.expect(NAME);
            int kind = AN_INT;
            if (cursor.kind == BRACKET || word == BYTE) {
                kind = word == INT ? INTS : BYTES;
                if (cursor.opens(BRACKET)) {
                    cursor.closesWith(BRACKET_END);
                }
            }
            if (!judge.on) {
                program.addFormal(kind);
                return;
            }
            judge.tellFormal(id, place, kind);
            if (n >= MOST_FORMALS) {
                judge.note(Judge.TOO_MUCH, place);
            }
        }

        private void block() {
            if (!cursor.opens(BRACE)) {
                return;
            }
            for (int n = 0; n < MOST_TOKENS && cursor.kind != BRACE_END && cursor.kind != STOP; n++) {
                statement();
            }
            cursor.closesWith(BRACE_END);
        }

        /** A STATEMENT that is a scope of its own. */
        private void inner() {
            judge.enter();
            statement();
            judge.leave();
        }

        private void statement() {
            switch (cursor.kind) {
                case BRACE:
                    judge.enter();
                    block();
                    judge.leave();
                    break;
                case SEMICOLON:
                    cursor.next();
                    break;
                case INT:
                case BYTE:
                    localTold(false);
                    cursor.expect(SEMICOLON);
                    break;
                case IF:
                    ifStatement();
                    break;
                case WHILE:
                    whileStatement();
                    break;
                case DO:
                    doStatement();
                    break;
                case FOR:
                    forStatement();
                    break;
                case BREAK:
                case CONTINUE:
                    leap();
                    break;
                case RETURN:
                    returnStatement();
                    break;
                case PUT:
                case HALT:
                    handOut();
                    break;
                default:
                    simple();
                    cursor.expect(SEMICOLON);
            }
        }

        /** What a STATEMENT tells, or a START, which must be an int with its E. */
        private void localTold(boolean atStart) {
            int word = cursor.kind;
            cursor.next();
            int id = cursor.value;
            int place = cursor.place;
            cursor.expect(NAME);
            if (atStart && cursor.kind != ASSIGN) {
                cursor.fail(MISPLACED);
            } else if (cursor.kind == BRACKET || word == BYTE) {
                int size = expressions.arraySize();
                localArray(id, place, word == INT ? INTS : BYTES, size);
            } else if (cursor.kind == ASSIGN) {
                cursor.next();
                expressions.expression();
                localInt(id, place);
            } else {
                code.addPair(PUSH, 0);
                localInt(id, place);
            }
        }

        private void localArray(int id, int place, int kind, int size) {
            int words = wordsOf(kind, size);
            int offset = judge.localRoom(words, place);
            code.addPair(CLEAR, offset);
            code.add(words);
            judge.tell(id, place, kind, offset, size);
        }

        /** The value on the stack becomes a new int's. */
        private void localInt(int id, int place) {
            int offset = judge.localRoom(1, place);
            code.addPair(STORE_LOCAL, offset);
            judge.tell(id, place, AN_INT, offset, 0);
        }

        private void condition() {
            if (cursor.opens(PAREN)) {
                expressions.expression();
                cursor.closesWith(PAREN_END);
            }
        }

        private void ifStatement() {
            if (!cursor.opens(IF)) {
                return;
            }
            condition();
            int otherwise = code.addJump(JUMP_IF_NOT, NONE);
            inner();
            if (cursor.kind == ELSE) {
                cursor.next();
                int over = code.addJump(JUMP, NONE);
                code.aim(otherwise, code.count);
                inner();
                code.aim(over, code.count);
            } else {
                code.aim(otherwise, code.count);
            }
            cursor.closes();
        }

        /** The STATEMENT of a loop, whose jumps are gathered in new chains. */
        private void loopBody() {
            breaks = NONE;
            continues = NONE;
            loops++;
            code.add(TURN);
            inner();
            loops--;
        }

        private void whileStatement() {
            if (!cursor.opens(WHILE)) {
                return;
            }
            int outerBreaks = breaks;
            int outerContinues = continues;
            int test = code.count;
            condition();
            int exit = code.addJump(JUMP_IF_NOT, NONE);
            loopBody();
            code.addPair(JUMP, test);
            code.aim(continues, test);
            code.aim(exit, code.count);
            code.aim(breaks, code.count);
            breaks = outerBreaks;
            continues = outerContinues;
            cursor.closes();
        }

        private void doStatement() {
            if (!cursor.opens(DO)) {
                return;
            }
            int outerBreaks = breaks;
            int outerContinues = continues;
            int top = code.count;
            loopBody();
            code.aim(continues, code.count);
            cursor.expect(WHILE);
            condition();
            cursor.expect(SEMICOLON);
            code.addPair(JUMP_IF, top);
            code.aim(breaks, code.count);
            breaks = outerBreaks;
            continues = outerContinues;
            cursor.closes();
        }

        private void forStatement() {
            if (!cursor.opens(FOR)) {
                return;
            }
            int outerBreaks = breaks;
            int outerContinues = continues;
            judge.enter();
            boolean headed = cursor.opens(PAREN);
            if (headed && cursor.kind == INT) {
                localTold(true);
            } else if (headed && cursor.kind != SEMICOLON) {
                simple();
            }
            cursor.expect(SEMICOLON);
            int test = code.count;
            int exit = NONE;
            if (cursor.kind != SEMICOLON) {
                expressions.expression();
                exit = code.addJump(JUMP_IF_NOT, NONE);
            }
            cursor.expect(SEMICOLON);
            int entry = code.addJump(JUMP, NONE);
            int step = code.count;
            if (cursor.kind != PAREN_END) {
                simple();
            }
            code.addPair(JUMP, test);
            cursor.closesWith(PAREN_END);
            code.aim(entry, code.count);
            loopBody();
            code.addPair(JUMP, step);
            code.aim(continues, step);
            code.aim(exit, code.count);
            code.aim(breaks, code.count);
            judge.leave();
            breaks = outerBreaks;
            continues = outerContinues;
            cursor.closes();
        }

        private void leap() {
            if (loops == 0) {
                judge.note(Judge.NO_LOOP, cursor.place);
            }
            if (cursor.kind == BREAK) {
                breaks = code.addJump(JUMP, breaks);
            } else {
                continues = code.addJump(JUMP, continues);
            }
            cursor.next();
            cursor.expect(SEMICOLON);
        }

        private void returnStatement() {
            cursor.next();
            boolean alone = cursor.kind == SEMICOLON;
            if (alone == judge.gives) {
                judge.note(Judge.RETURNED, cursor.place);
            }
            if (alone) {
                code.addPair(PUSH, 0);
            } else {
                expressions.expression();
            }
            code.add(RETURN);
            cursor.expect(SEMICOLON);
        }

        private void handOut() {
            int operation = cursor.kind;
            cursor.next();
            condition();
            code.add(operation);
            cursor.expect(SEMICOLON);
        }

        private void simple() {
            int place = cursor.place;
            int id = cursor.value;
            cursor.expect(NAME);
            if (cursor.kind == STOP) {
                return;
            }
            int symbol = judge.meant(id, place);
            judge.wantPlace(symbol, place, cursor.kind);
            if (cursor.kind == PAREN) {
                expressions.call(symbol, place);
                code.add(DROP);
                return;
            }
            boolean element = cursor.kind == BRACKET;
            if (element) {
                expressions.index(symbol);
            }
            int sign = cursor.kind;
            if (sign < ASSIGN || sign > DECREMENT) {
                cursor.fail(MISPLACED);
                return;
            }
            cursor.next();
            if (sign != ASSIGN) {
                oldValue(symbol, element);
            }
            if (sign < INCREMENT) {
                expressions.expression();
            } else {
                code.addPair(PUSH, 1);
            }
            if (sign != ASSIGN) {
                code.add(JOINED_BY[sign - ASSIGN_ADD]);
            }
            if (element) {
                expressions.keep(symbol);
            } else {
                expressions.store(symbol);
            }
        }

        private void oldValue(int symbol, boolean element) {
            if (element) {
                code.add(COPY);
                expressions.fetch(symbol);
            } else {
                expressions.load(symbol);
            }
        }
    }

    /** The INPUT that waits and the OUTPUT that came. */
    private static final class Ports {
        private static final int MOST_WAITING = 500;
        private static final int MOST_KEPT = 2000;
        private static final int MOST_COUNTED = 2147483647;
        private final int[] input = new int[MOST_WAITING];
        private int first;
        int waiting;
        private final int[] output = new int[MOST_KEPT];
        int shownCount;

        void forgetInput() {
            first = 0;
            waiting = 0;
        }

        void forgetOutput() {
            shownCount = 0;
        }

        boolean takes(int number) {
            if (waiting >= MOST_WAITING) {
                return false;
            }
            input[(first + waiting) % MOST_WAITING] = number;
            waiting++;
            return true;
        }

        /** The next number of the INPUT; only asked for when one waits. */
        int handIn() {
            if (waiting <= 0) {
                return 0;
            }
            int number = input[first];
            first = (first + 1) % MOST_WAITING;
            waiting--;
            return number;
        }

        void show(int number) {
            if (shownCount < MOST_KEPT) {
                output[shownCount] = number;
            }
            if (shownCount < MOST_COUNTED) {
                shownCount++;
            }
        }

        int shown(int i) {
            return i < 0 || i >= MOST_KEPT || i >= shownCount ? 0 : output[i];
        }
    }

    /** Does a program's code: a stack for the values at work, and memory for globals and frames. */
    private static final class Machine {
        private static final int MOST_STEPS = 100000000;
        private static final int FIRST_FRAME = MOST_GLOBAL_WORDS;
        private static final int MEMORY = MOST_GLOBAL_WORDS + MOST_LIMIT;
        private static final int FIRST_ROOM = 1024;
        // Far above what 500 open CALLs can leave on the stack at forty open brackets each.
        private static final int MOST_ROOM = 1 << 19;

        private final Code code;
        private final Program program;
        private final Ports ports;
        private final int[] memory = new int[MEMORY];
        private int[] stack = new int[FIRST_ROOM];
        private int top;
        private int pc;
        private int frame;
        private int behind;
        private boolean inMain;
        private boolean going;
        private int left;
        int state;
        int taken;
        int value;
        int place;
        int limit;

        Machine(Code code, Program program, Ports ports) {
            this.code = code;
            this.program = program;
            this.ports = ports;
            place = NONE;
            behind = FIRST_FRAME;
        }

        void forget() {
            state = NO_RUN;
            taken = 0;
            value = 0;
            place = NONE;
            limit = 0;
            top = 0;
            behind = FIRST_FRAME;
            inMain = false;
        }

        void startAnew(int newLimit) {
            forget();
            state = MAY_GO_ON;
            limit = newLimit;
            System.arraycopy(program.firstWords, 0, memory, 0, MOST_GLOBAL_WORDS);
        }

        int depth() {
            return behind - FIRST_FRAME;
        }

        int held(int at) {
            return at < 0 || at >= MEMORY ? 0 : memory[at];
        }

        private void hold(int at, int number) {
            if (at >= 0 && at < MEMORY) {
                memory[at] = number;
            }
        }

        /** What the code of a CONSTANT, which ends all code, leaves. */
        int valueFrom(int start) {
            pc = start;
            top = 0;
            for (int n = 0; n < MOST_STEPS && pc < code.count; n++) {
                int operation = next();
                if (operation == PUSH) {
                    push(next());
                } else if (operation >= JUMP) {
                    jump(operation, next());
                } else if (operation >= FLIP) {
                    push(changed(operation, pop()));
                } else {
                    int b = pop();
                    push(joined(operation, pop(), b));
                }
            }
            return pop();
        }

        void goOn(int turns) {
            if (state != MAY_GO_ON && state != WAITS) {
                return;
            }
            state = MAY_GO_ON;
            left = turns;
            going = true;
            if (!inMain) {
                enterMain();
            }
            for (int n = 0; n < MOST_STEPS && going; n++) {
                step();
            }
        }

        private void enterMain() {
            if (!program.has(program.main)) {
                over(ENDED);
                return;
            }
            inMain = enters(program.main, program.places[program.main]);
        }

        /** Begins a function whose E's are on the stack, if there is room for it. */
        private boolean enters(int function, int placeOfName) {
            int measure = program.measures[function];
            if (depth() + measure > limit) {
                place = placeOfName;
                over(STACK);
                return false;
            }
            hold(behind, pc);
            hold(behind + 1, frame);
            for (int i = program.formalWords[function] - 1; i >= 0; i--) {
                hold(behind + FRAME_WORDS + i, pop());
            }
            frame = behind;
            behind += measure;
            pc = program.entries[function];
            return true;
        }

        private void over(int how) {
            state = how;
            going = false;
        }

        private void stops(int how, int at) {
            pc = at;
            over(how);
        }

        private void push(int number) {
            if (top >= stack.length && stack.length < MOST_ROOM) {
                stack = Arrays.copyOf(stack, stack.length * 2);
            }
            if (top < stack.length) {
                stack[top] = number;
                top++;
            }
        }

        private int pop() {
            if (top <= 0) {
                return 0;
            }
            top--;
            return stack[top];
        }

        private int next() {
            int word = pc < 0 || pc >= code.count ? HALT : code.words[pc];
            pc++;
            return word;
        }

        private void step() {
            int at = pc;
            int operation = next();
            if (operation >= OR && operation <= REST) {
                int b = pop();
                push(joined(operation, pop(), b));
            } else if (operation >= FLIP && operation <= TRUTH) {
                push(changed(operation, pop()));
            } else if (operation >= PUSH && operation <= CLEAR) {
                move(operation);
            } else if (operation >= AT_GLOBAL && operation <= PASS_PASSED) {
                reach(operation);
            } else if (operation >= JUMP && operation <= JUMP_IF_NOT_BOTH) {
                jump(operation, next());
            } else {
                act(operation, at);
            }
        }

        private static int changed(int operation, int a) {
            switch (operation) {
                case FLIP:
                    return ~a;
                case NOT:
                    return truth(a == 0);
                case NEGATE:
                    return -a;
                default:
                    return truth(a != 0);
            }
        }

        private void move(int operation) {
            switch (operation) {
                case PUSH:
                    push(next());
                    break;
                case COPY:
                    int number = pop();
                    push(number);
                    push(number);
                    break;
                case DROP:
                    pop();
                    break;
                case LOAD_GLOBAL:
                    push(held(next()));
                    break;
                case LOAD_LOCAL:
                    push(held(frame + next()));
                    break;
                case STORE_GLOBAL:
                    hold(next(), pop());
                    break;
                case STORE_LOCAL:
                    hold(frame + next(), pop());
                    break;
                default:
                    clear(frame + next(), next());
            }
        }

        private void clear(int first, int words) {
            for (int i = 0; i < words && i < MOST_LOCAL_WORDS; i++) {
                hold(first + i, 0);
            }
        }

        private void reach(int operation) {
            switch (operation) {
                case AT_GLOBAL:
                    element(next(), next());
                    break;
                case AT_LOCAL:
                    element(frame + next(), next());
                    break;
                case AT_PASSED:
                    int at = frame + next();
                    next();
                    element(held(at), held(at + 1));
                    break;
                case FETCH_INT:
                    push(held(pop()));
                    break;
                case FETCH_BYTE:
                    int address = pop();
                    push(held(address >> 2) >>> (address & 3) * 8 & 255);
                    break;
                case KEEP_INT:
                    int number = pop();
                    hold(pop(), number);
                    break;
                case KEEP_BYTE:
                    int newest = pop();
                    keepByte(pop(), newest & 255);
                    break;
                default:
                    pass(operation, next(), next());
            }
        }

        private void element(int base, int size) {
            int shift = next();
            int placeOfSign = next();
            int i = pop();
            if (i < 0 || i >= size) {
                place = placeOfSign;
                over(INDEX);
            } else {
                push((base << shift) + i);
            }
        }

        private void keepByte(int address, int number) {
            int at = address >> 2;
            int shift = (address & 3) * 8;
            hold(at, held(at) & ~(255 << shift) | number << shift);
        }

        private void pass(int operation, int where, int size) {
            if (operation == PASS_PASSED) {
                push(held(frame + where));
                push(held(frame + where + 1));
            } else {
                push(operation == PASS_GLOBAL ? where : frame + where);
                push(size);
            }
        }

        private void jump(int operation, int target) {
            boolean goes = true;
            if (operation != JUMP) {
                boolean holds = pop() != 0;
                goes = holds == (operation == JUMP_IF || operation == JUMP_IF_EITHER);
                if (goes && operation >= JUMP_IF_EITHER) {
                    push(truth(holds));
                }
            }
            if (goes) {
                pc = target;
            }
        }

        private void act(int operation, int at) {
            switch (operation) {
                case TURN:
                    if (!takesTurn()) {
                        stops(MAY_GO_ON, at);
                    }
                    break;
                case CALL:
                    call(at);
                    break;
                case RETURN:
                    leave();
                    break;
                case PUT:
                    ports.show(pop());
                    break;
                case GET:
                    if (ports.waiting > 0) {
                        push(ports.handIn());
                    } else {
                        stops(WAITS, at);
                    }
                    break;
                default:
                    value = pop();
                    over(HALTED);
            }
        }

        private boolean takesTurn() {
            if (left <= 0) {
                return false;
            }
            left--;
            taken++;
            return true;
        }

        private void call(int at) {
            int function = next();
            int placeOfName = next();
            if (!takesTurn()) {
                stops(MAY_GO_ON, at);
            } else if (program.has(function)) {
                enters(function, placeOfName);
            }
        }

        private void leave() {
            behind = frame;
            if (frame == FIRST_FRAME) {
                value = pop();
                over(ENDED);
                return;
            }
            pc = held(frame);
            frame = held(frame + 1);
        }
    }

    /** A machine of 32-bit words with 31 registers and one that is always 0. */
    private static final class Board {
        private static final int WORDS = 4096;
        private static final int BYTES_IN_ALL = WORDS * 4;
        private static final int PC = 32;
        private static final int DONE = 33;
        private static final int FIRST_WORD = 100;
        private static final long LOWEST = 0xffffffffL;
        private static final int WORKS = 0;
        private static final int NO_FETCH = 1;
        private static final int NO_WORD = 2;
        private static final int BAD_JUMP = 3;
        private static final int BAD_ADDRESS = 4;
        private static final int BEYOND = 5;
        private static final int ECALL = 6;
        private static final int EBREAK = 7;

        private final int[] memory = new int[WORDS];
        private final int[] registers = new int[32];
        private int pc;
        private int done;
        private int following;

        boolean hold(int address, int word) {
            if (address < 0 || address >= BYTES_IN_ALL || (address & 3) != 0) {
                return false;
            }
            memory[address >> 2] = word;
            return true;
        }

        boolean change(int register, int number) {
            if (register < 1 || register > PC) {
                return false;
            }
            if (register == PC) {
                pc = number;
            } else {
                keep(register, number);
            }
            return true;
        }

        int shown(int i) {
            if (i >= 0 && i < PC) {
                return registers[i];
            }
            if (i == PC) {
                return pc;
            }
            if (i == DONE) {
                return done;
            }
            return i >= FIRST_WORD && i < FIRST_WORD + WORDS ? memory[i - FIRST_WORD] : NONE;
        }

        int doWords(int n) {
            int why = WORKS;
            for (int i = 0; i < n && why == WORKS; i++) {
                why = doWord();
            }
            return why;
        }

        private int doWord() {
            if ((pc & 3) != 0 || pc < 0 || pc >= BYTES_IN_ALL) {
                return NO_FETCH;
            }
            int word = memory[pc >> 2];
            following = pc + 4;
            int why = does(word);
            if (why == WORKS || why == ECALL || why == EBREAK) {
                pc = following;
                done++;
            }
            return why;
        }

        private int does(int word) {
            switch (word & 127) {
                case 0x37:
                    return keep(word >>> 7 & 31, word & 0xfffff000);
                case 0x17:
                    return keep(word >>> 7 & 31, pc + (word & 0xfffff000));
                case 0x6f:
                    return link(word >>> 7 & 31, pc + offsetJ(word));
                case 0x67:
                    int aim = registers[word >>> 15 & 31] + (word >> 20) & ~1;
                    return (word >>> 12 & 7) == 0 ? link(word >>> 7 & 31, aim) : NO_WORD;
                case 0x63:
                    return branch(word);
                case 0x03:
                    return load(word);
                case 0x23:
                    return store(word);
                case 0x13:
                    return withNumber(word);
                case 0x33:
                    return withRegister(word);
                case 0x0f:
                    return (word >>> 12 & 7) == 0 ? WORKS : NO_WORD;
                default:
                    return word == 0x73 ? ECALL : word == 0x100073 ? EBREAK : NO_WORD;
            }
        }

        private int keep(int register, int number) {
            if (register > 0 && register < 32) {
                registers[register] = number;
            }
            return WORKS;
        }

        private static int offsetJ(int word) {
            return word >> 31 << 20 | word & 0xff000 | (word >>> 20 & 1) << 11 | (word >>> 21 & 1023) << 1;
        }

        private static int offsetB(int word) {
            return word >> 31 << 12 | (word >>> 7 & 1) << 11 | (word >>> 25 & 63) << 5 | (word >>> 8 & 15) << 1;
        }

        private int link(int register, int target) {
            if ((target & 3) != 0) {
                return BAD_JUMP;
            }
            following = target;
            return keep(register, pc + 4);
        }

        private int branch(int word) {
            int f = word >>> 12 & 7;
            int a = registers[word >>> 15 & 31];
            int b = registers[word >>> 20 & 31];
            if (f == 2 || f == 3) {
                return NO_WORD;
            }
            boolean holds;
            if (f < 2) {
                holds = a == b;
            } else if (f < 6) {
                holds = a < b;
            } else {
                holds = isBelow(a, b);
            }
            if (holds == ((f & 1) == 1)) {
                return WORKS;
            }
            int target = pc + offsetB(word);
            if ((target & 3) != 0) {
                return BAD_JUMP;
            }
            following = target;
            return WORKS;
        }

        /** Below without signs. */
        private static boolean isBelow(int a, int b) {
            return (a & LOWEST) < (b & LOWEST);
        }

        /** Why so many bytes at an address can't be reached. */
        private static int reach(int address, int size) {
            if ((address & size - 1) != 0) {
                return BAD_ADDRESS;
            }
            return address < 0 || address > BYTES_IN_ALL - size ? BEYOND : WORKS;
        }

        private int load(int word) {
            int f = word >>> 12 & 7;
            if (f == 3 || f > 5) {
                return NO_WORD;
            }
            int size = 1 << (f & 3);
            int address = registers[word >>> 15 & 31] + (word >> 20);
            int why = reach(address, size);
            if (why != WORKS) {
                return why;
            }
            int unused = 32 - size * 8;
            int number = memory[address >> 2] >>> (address & 3) * 8 << unused;
            return keep(word >>> 7 & 31, f < 4 ? number >> unused : number >>> unused);
        }

        private int store(int word) {
            int f = word >>> 12 & 7;
            if (f > 2) {
                return NO_WORD;
            }
            int size = 1 << f;
            int address = registers[word >>> 15 & 31] + (word >> 25 << 5 | word >>> 7 & 31);
            int why = reach(address, size);
            if (why != WORKS) {
                return why;
            }
            int shift = (address & 3) * 8;
            int mask = -1 >>> 32 - size * 8 << shift;
            int at = address >> 2;
            memory[at] = memory[at] & ~mask | registers[word >>> 20 & 31] << shift & mask;
            return WORKS;
        }

        private int withNumber(int word) {
            int f = word >>> 12 & 7;
            int g = word >>> 25;
            int a = registers[word >>> 15 & 31];
            int number = word >> 20;
            if (f == 1 && g != 0 || f == 5 && g != 0 && g != 32) {
                return NO_WORD;
            }
            return keep(word >>> 7 & 31, plain(f, f == 5 && g == 32, a, number));
        }

        private int withRegister(int word) {
            int f = word >>> 12 & 7;
            int g = word >>> 25;
            int a = registers[word >>> 15 & 31];
            int b = registers[word >>> 20 & 31];
            if (g == 1) {
                return keep(word >>> 7 & 31, product(f, a, b));
            }
            if (g != 0 && (g != 32 || f != 0 && f != 5)) {
                return NO_WORD;
            }
            return keep(word >>> 7 & 31, plain(f, g == 32, a, b));
        }

        private static int plain(int f, boolean other, int a, int b) {
            switch (f) {
                case 0:
                    return other ? a - b : a + b;
                case 1:
                    return a << b;
                case 2:
                    return truth(a < b);
                case 3:
                    return truth(isBelow(a, b));
                case 4:
                    return a ^ b;
                case 5:
                    return other ? a >> b : a >>> b;
                case 6:
                    return a | b;
                default:
                    return a & b;
            }
        }

        private static int product(int f, int a, int b) {
            switch (f) {
                case 0:
                    return a * b;
                case 1:
                    return (int) ((long) a * b >> 32);
                case 2:
                    return (int) (a * (b & LOWEST) >> 32);
                case 3:
                    return (int) ((a & LOWEST) * (b & LOWEST) >>> 32);
                case 4:
                    return joined(DIVIDE, a, b);
                case 5:
                    return b == 0 ? -1 : (int) ((a & LOWEST) / (b & LOWEST));
                case 6:
                    return joined(REST, a, b);
                default:
                    return b == 0 ? a : (int) ((a & LOWEST) % (b & LOWEST));
            }
        }
    }
}
