/**
 * A small Lisp whose values lie in cells of one row: text is fed, forms are read, evaluated step by
 * step with a stack of frames, and printed; cells that nobody can come to any more are there again
 * for others when there is need.
 */
public final class CellLisp {
    public static final int DONE = 0;
    public static final int MORE = 1;
    public static final int NONE = 2;
    public static final int SYNTAX = -1;
    public static final int UNBOUND = -2;
    public static final int FORM = -3;
    public static final int COUNT = -4;
    public static final int TYPE = -5;
    public static final int STACK = -6;
    public static final int ROOM = -7;
    public static final int SYMBOLS = -8;

    private static final int FEWEST_CELLS = 20;
    private static final int MOST_CELLS = 400;
    private static final int MOST_FUEL = 1000;

    private final Text text;
    private final Output output;
    private final Symbols symbols;
    private final State state;
    private final Room room;
    private final Machine machine;

    public CellLisp(int size) {
        text = new Text();
        output = new Output();
        symbols = new Symbols();
        state = new State();
        room = new Room(Math.max(FEWEST_CELLS, Math.min(size, MOST_CELLS)), state, symbols);
        machine = new Machine(
                state, room, symbols, new Reader(text, symbols, room), new Printer(output, symbols, room));
    }

    public boolean feed(int word, int n) {
        return text.append(word, n);
    }

    public int run(int fuel) {
        int limit = Math.max(1, Math.min(fuel, MOST_FUEL));
        int answer = MORE;
        for (int i = 0; i < limit && answer == MORE; i++) {
            answer = machine.step();
        }
        return answer;
    }

    public int outSize() {
        return output.size;
    }

    public int out(int i) {
        return output.at(i);
    }

    public void clearOut() {
        output.size = 0;
    }

    public int liveCells() {
        room.collect();
        return room.used;
    }

    public int count(int what) {
        switch (what) {
            case 0:
                return text.size;
            case 1:
                return state.depth;
            case 2:
                return symbols.known;
            case 3:
                return machine.steps;
            default:
                return -1;
        }
    }

    /**
     * A value is one int: its three lowest bits are its kind, the other 29 its number, its symbol or
     * its slot in the room. Numbers so wrap to 29 bits by the shift alone.
     */
    private static final class Value {
        static final int NUMBER = 0;
        static final int SYMBOL = 1;
        static final int EMPTY = 2;
        static final int PRIMITIVE = 3;
        static final int PAIR = 4;
        static final int CLOSURE = 5;
        static final int UNSET = 6;
        static final int NIL = EMPTY;
        private static final int KIND_BITS = 3;
        private static final int KIND_MASK = 7;

        private Value() {
        }

        static int of(int kind, int content) {
            return content << KIND_BITS | kind;
        }

        static int kind(int value) {
            return value & KIND_MASK;
        }

        static int content(int value) {
            return value >> KIND_BITS;
        }

        static boolean isPair(int value) {
            return kind(value) == PAIR;
        }

        static boolean isSymbol(int value) {
            return kind(value) == SYMBOL;
        }

        static boolean isNumber(int value) {
            return kind(value) == NUMBER;
        }
    }

    /** The characters that wait to be read. */
    private static final class Text {
        static final int LIMIT = 120;
        private static final int BYTES = 4;
        private static final int MOST_DIGITS = 9;
        private static final int NAME_LENGTH = 8;

        private final char[] row = new char[LIMIT];
        private int size;

        boolean append(int word, int n) {
            if (n < 1 || n > BYTES || size + n > LIMIT) {
                return false;
            }
            for (int i = 0; i < n; i++) {
                if (!isCharacter(word >>> 8 * i & 255)) {
                    return false;
                }
            }
            for (int i = n - 1; i >= 0 && size < LIMIT; i--) {
                row[size] = (char) (word >>> 8 * i & 255);
                size++;
            }
            return true;
        }

        char at(int i) {
            return i >= 0 && i < size ? row[i] : ' ';
        }

        void drop(int n) {
            int from = Math.max(0, Math.min(n, size));
            for (int i = from; i < size; i++) {
                row[i - from] = row[i];
            }
            size -= from;
        }

        /** Where the word, sign or blank that begins at from ends. */
        int pieceEnd(int from) {
            int end = from + 1;
            if (isOfWord(at(from))) {
                while (end < size && isOfWord(at(end))) {
                    end++;
                }
            }
            return end;
        }

        boolean isNumber(int from, int to) {
            int digits = at(from) == '-' ? from + 1 : from;
            if (to - digits < 1 || to - digits > MOST_DIGITS) {
                return false;
            }
            for (int i = digits; i < to; i++) {
                if (at(i) < '0' || at(i) > '9') {
                    return false;
                }
            }
            return true;
        }

        int number(int from, int to) {
            boolean negative = at(from) == '-';
            int sum = 0;
            for (int i = negative ? from + 1 : from; i < to; i++) {
                sum = 10 * sum + (at(i) - '0');
            }
            return negative ? -sum : sum;
        }

        /** The first characters of a word, packed into one long so that == compares names. */
        long name(int from, int to) {
            long name = 0;
            for (int i = from; i < to && i < from + NAME_LENGTH; i++) {
                name = name << 8 | at(i);
            }
            return name;
        }

        static boolean isBlank(char c) {
            return c == 10 || c == ' ';
        }

        private static boolean isOfWord(char c) {
            return !isBlank(c) && c != '(' && c != ')' && c != '\'';
        }

        private static boolean isCharacter(int c) {
            return c == 10 || (c >= 32 && c <= 126);
        }
    }

    /** The characters that wait to be taken. */
    private static final class Output {
        private static final int LIMIT = 200;

        private final char[] row = new char[LIMIT];
        private int size;

        boolean isFull() {
            return size >= LIMIT;
        }

        void put(char c) {
            if (size >= 0 && size < LIMIT) {
                row[size] = c;
                size++;
            }
        }

        int at(int i) {
            return i >= 0 && i < size && i < LIMIT ? row[i] : -1;
        }
    }

    /** The known symbols, in the order in which they came, and their global values. */
    private static final class Symbols {
        static final int PLUS = 0;
        static final int MINUS = 1;
        static final int TIMES = 2;
        static final int LESS = 3;
        static final int SAME = 4;
        static final int ATOM = 5;
        static final int CONS = 6;
        static final int CAR = 7;
        static final int CDR = 8;
        static final int LIST = 9;
        static final int QUOTE = 10;
        static final int IF = 11;
        static final int LAMBDA = 12;
        static final int DEFINE = 13;
        static final int SET = 14;
        static final int TRUE = 15;
        /** The word nil, packed as names are. */
        static final long NIL_NAME = 0x6E696CL;
        private static final int LIMIT = 40;
        /** In the order of the numbers above; a blank ends each. */
        private static final String AT_FIRST =
                "+ - * < eq? atom? cons car cdr list quote if lambda define set! t ";

        private final long[] names = new long[LIMIT];
        private final int[] globals = new int[LIMIT];
        private int known;

        Symbols() {
            long name = 0;
            for (int i = 0; i < AT_FIRST.length(); i++) {
                char c = AT_FIRST.charAt(i);
                if (c == ' ') {
                    learn(name);
                    name = 0;
                } else {
                    name = name << 8 | c;
                }
            }
            for (int i = PLUS; i <= LIST; i++) {
                globals[i] = Value.of(Value.PRIMITIVE, i);
            }
            globals[TRUE] = Value.of(Value.SYMBOL, TRUE);
        }

        /** The symbol's number, or -1 if it is not known. */
        int find(long name) {
            for (int i = 0; i < known && i < LIMIT; i++) {
                if (names[i] == name) {
                    return i;
                }
            }
            return -1;
        }

        /** False if there is no place for one more symbol. */
        boolean learn(long name) {
            if (find(name) >= 0) {
                return true;
            }
            if (known >= LIMIT) {
                return false;
            }
            names[known] = name;
            globals[known] = Value.UNSET;
            known++;
            return true;
        }

        long name(int symbol) {
            return symbol >= 0 && symbol < LIMIT ? names[symbol] : 0;
        }

        int global(int symbol) {
            return symbol >= 0 && symbol < LIMIT ? globals[symbol] : Value.UNSET;
        }

        void setGlobal(int symbol, int value) {
            if (symbol >= 0 && symbol < LIMIT) {
                globals[symbol] = value;
            }
        }
    }

    /** What the machine holds between two steps. */
    private static final class State {
        static final int IF = 1;
        static final int DEFINE = 2;
        static final int SET = 3;
        static final int ARGUMENTS = 4;
        private static final int LIMIT = 30;

        private int value = Value.NIL;
        private int environment = Value.NIL;
        private boolean evaluating;
        private int depth;
        private final int[] kinds = new int[LIMIT];
        private final int[] as = new int[LIMIT];
        private final int[] bs = new int[LIMIT];
        private final int[] cs = new int[LIMIT];

        /** False, changing nothing, if there are as many frames as there may be. */
        boolean push(int kind, int a, int b) {
            if (depth < 0 || depth >= LIMIT) {
                return false;
            }
            kinds[depth] = kind;
            as[depth] = a;
            bs[depth] = b;
            cs[depth] = Value.NIL;
            depth++;
            return true;
        }

        void pop() {
            if (depth > 0) {
                depth--;
            }
        }

        int kind() {
            return hasTop() ? kinds[depth - 1] : 0;
        }

        int a() {
            return hasTop() ? as[depth - 1] : Value.NIL;
        }

        int b() {
            return hasTop() ? bs[depth - 1] : Value.NIL;
        }

        int c() {
            return hasTop() ? cs[depth - 1] : Value.NIL;
        }

        void setA(int a) {
            if (hasTop()) {
                as[depth - 1] = a;
            }
        }

        void setC(int c) {
            if (hasTop()) {
                cs[depth - 1] = c;
            }
        }

        private boolean hasTop() {
            return depth >= 1 && depth <= LIMIT;
        }
    }

    /**
     * The cells. A pair or closure lies in a slot of its own, so that any free slot will do for the
     * next one; the cells are counted. As each takes two cells at least, there are never too few slots.
     */
    private static final class Room {
        static final int PAIR_CELLS = 2;
        static final int CLOSURE_CELLS = 3;

        private final int size;
        private final int slots;
        private final int[] firsts;
        private final int[] seconds;
        private final int[] thirds;
        private final boolean[] reached;
        private final int[] waiting;
        private final int[] free;
        private int waitingSize;
        private int freeSize;
        /** Never less than the cells in use, and just these after collect. */
        private int used;
        private final State state;
        private final Symbols symbols;

        Room(int size, State state, Symbols symbols) {
            this.size = size;
            this.state = state;
            this.symbols = symbols;
            slots = Math.max(0, size / PAIR_CELLS);
            firsts = new int[slots];
            seconds = new int[slots];
            thirds = new int[slots];
            reached = new boolean[slots];
            waiting = new int[slots];
            free = new int[slots];
            for (int i = 0; i < slots; i++) {
                free[i] = i;
            }
            freeSize = slots;
        }

        boolean hasFor(int cells) {
            if (used + cells > size) {
                collect();
            }
            return used + cells <= size;
        }

        int pair(int car, int cdr) {
            used += PAIR_CELLS;
            return make(Value.PAIR, car, cdr, Value.NIL);
        }

        int closure(int parameters, int body, int environment) {
            used += CLOSURE_CELLS;
            return make(Value.CLOSURE, parameters, body, environment);
        }

        /** A pair's CAR, or a closure's parameters. */
        int first(int value) {
            return isHere(value) ? firsts[Value.content(value)] : Value.NIL;
        }

        /** A pair's CDR, or a closure's body. */
        int second(int value) {
            return isHere(value) ? seconds[Value.content(value)] : Value.NIL;
        }

        /** A closure's environment. */
        int third(int value) {
            return isHere(value) ? thirds[Value.content(value)] : Value.NIL;
        }

        void setSecond(int value, int content) {
            if (isHere(value)) {
                seconds[Value.content(value)] = content;
            }
        }

        /** How many pairs follow one another by their CDRs. */
        int length(int list) {
            int rest = list;
            int n = 0;
            while (n < slots && Value.isPair(rest)) {
                rest = second(rest);
                n++;
            }
            return n;
        }

        /** The list's rest behind n pairs. */
        int tail(int list, int n) {
            int rest = list;
            for (int i = 0; i < n && Value.isPair(rest); i++) {
                rest = second(rest);
            }
            return rest;
        }

        /** The first binding of the symbol, or NIL. */
        int binding(int symbol, int environment) {
            int rest = environment;
            for (int i = 0; i < slots && Value.isPair(rest); i++) {
                if (first(first(rest)) == symbol) {
                    return first(rest);
                }
                rest = second(rest);
            }
            return Value.NIL;
        }

        /** Counts the cells in use and makes all other slots free. */
        void collect() {
            used = 0;
            waitingSize = 0;
            reach(state.value);
            reach(state.environment);
            for (int i = 0; i < state.depth && i < State.LIMIT; i++) {
                reach(state.as[i]);
                reach(state.bs[i]);
                reach(state.cs[i]);
            }
            for (int i = 0; i < symbols.known && i < Symbols.LIMIT; i++) {
                reach(symbols.globals[i]);
            }
            // A slot comes to wait but once, so the row never grows beyond its end.
            for (int i = 0; i < waitingSize && i < slots; i++) {
                int slot = waiting[i];
                if (slot >= 0 && slot < slots) {
                    reach(firsts[slot]);
                    reach(seconds[slot]);
                    reach(thirds[slot]);
                }
            }
            freeUnreached();
        }

        private void reach(int value) {
            int kind = Value.kind(value);
            int slot = Value.content(value);
            boolean hasCells = kind == Value.PAIR || kind == Value.CLOSURE;
            if (!hasCells || slot < 0 || slot >= slots || reached[slot] || waitingSize >= slots) {
                return;
            }
            reached[slot] = true;
            used += kind == Value.PAIR ? PAIR_CELLS : CLOSURE_CELLS;
            waiting[waitingSize] = slot;
            waitingSize++;
        }

        private void freeUnreached() {
            freeSize = 0;
            for (int i = 0; i < slots; i++) {
                if (!reached[i] && freeSize < slots) {
                    free[freeSize] = i;
                    freeSize++;
                }
                reached[i] = false;
            }
        }

        private int make(int kind, int one, int two, int three) {
            if (freeSize < 1 || freeSize > slots) {
                return Value.NIL;
            }
            freeSize--;
            int slot = free[freeSize];
            if (slot < 0 || slot >= slots) {
                return Value.NIL;
            }
            firsts[slot] = one;
            seconds[slot] = two;
            thirds[slot] = three;
            return slot << Value.KIND_BITS | kind;
        }

        private boolean isHere(int value) {
            int kind = value & Value.KIND_MASK;
            int slot = value >> Value.KIND_BITS;
            return (kind == Value.PAIR || kind == Value.CLOSURE) && slot >= 0 && slot < slots;
        }
    }

    /** Takes forms out of the text and lays them into the room. */
    private static final class Reader {
        private static final int MOST_OPEN = 10;

        private final Text text;
        private final Symbols symbols;
        private final Room room;
        private int end;
        private int cells;
        private int form = Value.NIL;
        /** Of each open list, from 1 on: its first and last pair, and whether a ' stands before it. */
        private final int[] heads = new int[MOST_OPEN + 1];
        private final int[] lasts = new int[MOST_OPEN + 1];
        private final boolean[] quotes = new boolean[MOST_OPEN + 1];

        Reader(Text text, Symbols symbols, Room room) {
            this.text = text;
            this.symbols = symbols;
            this.room = room;
        }

        /** DONE if a form was read, which is in the field form then; else NONE or an error. */
        int read() {
            int answer = findForm();
            if (answer == DONE && !learnSymbols()) {
                answer = SYMBOLS;
            }
            if (answer == DONE && !room.hasFor(cells)) {
                answer = ROOM;
            }
            if (answer == DONE) {
                build();
            }
            if (answer != NONE) {
                text.drop(end);
            }
            return answer;
        }

        /** Finds where the next form, or its first fault, ends, and how many cells the form needs. */
        private int findForm() {
            int open = 0;
            boolean quoted = false;
            int at = 0;
            cells = 0;
            for (int i = 0; i < Text.LIMIT && at < text.size; i++) {
                char c = text.at(at);
                end = text.pieceEnd(at);
                at = end;
                if (Text.isBlank(c)) {
                    continue;
                }
                if (isFault(c, open, quoted)) {
                    return SYNTAX;
                }
                cells += cellsOfPiece(c, open, quoted);
                quoted = c == '\'';
                if (c == '(') {
                    open++;
                } else if (c == ')') {
                    open--;
                } else if (!quoted && end >= text.size) {
                    return NONE;
                }
                if (open == 0 && !quoted) {
                    return DONE;
                }
            }
            return NONE;
        }

        private static boolean isFault(char c, int open, boolean quoted) {
            switch (c) {
                case '(':
                    return open >= MOST_OPEN;
                case ')':
                    return quoted || open == 0;
                case '\'':
                    return quoted;
                default:
                    return false;
            }
        }

        /** A pair for each thing that stands in a list by itself, and two for (quote x). */
        private static int cellsOfPiece(char c, int open, boolean quoted) {
            int pairs = c == '\'' ? 2 : 0;
            if (open > 0 && !quoted && c != ')') {
                pairs++;
            }
            return pairs * Room.PAIR_CELLS;
        }

        private boolean learnSymbols() {
            int at = 0;
            for (int i = 0; i < Text.LIMIT && at < end; i++) {
                int next = text.pieceEnd(at);
                if (isSymbol(at, next) && !symbols.learn(text.name(at, next))) {
                    return false;
                }
                at = next;
            }
            return true;
        }

        private boolean isSymbol(int from, int to) {
            return Text.isOfWord(text.at(from))
                    && !text.isNumber(from, to)
                    && text.name(from, to) != Symbols.NIL_NAME;
        }

        private void build() {
            int open = 0;
            boolean quoted = false;
            int at = 0;
            form = Value.NIL;
            for (int i = 0; i < Text.LIMIT && at < end; i++) {
                char c = text.at(at);
                int next = text.pieceEnd(at);
                if (c == '(' && open >= 0 && open < MOST_OPEN) {
                    open++;
                    heads[open] = Value.NIL;
                    lasts[open] = Value.NIL;
                    quotes[open] = quoted;
                    quoted = false;
                } else if (c == ')' && open >= 1 && open <= MOST_OPEN) {
                    open--;
                    place(heads[open + 1], quotes[open + 1], open);
                } else if (c == '\'') {
                    quoted = true;
                } else if (Text.isOfWord(c)) {
                    place(wordValue(at, next), quoted, open);
                    quoted = false;
                }
                at = next;
            }
        }

        private int wordValue(int from, int to) {
            if (text.isNumber(from, to)) {
                return Value.of(Value.NUMBER, text.number(from, to));
            }
            int symbol = symbols.find(text.name(from, to));
            return symbol < 0 ? Value.NIL : Value.of(Value.SYMBOL, symbol);
        }

        /** Puts a value behind the others of the innermost open list; without one, it is the form. */
        private void place(int value, boolean quoted, int open) {
            int thing = value;
            if (quoted) {
                thing = room.pair(
                        Value.of(Value.SYMBOL, Symbols.QUOTE), room.pair(value, Value.NIL));
            }
            if (open < 1 || open > MOST_OPEN) {
                form = thing;
                return;
            }
            int link = room.pair(thing, Value.NIL);
            if (heads[open] == Value.NIL) {
                heads[open] = link;
            } else {
                room.setSecond(lasts[open], link);
            }
            lasts[open] = link;
        }
    }

    /** Prints values. */
    private static final class Printer {
        private static final int MOST_OPEN = 16;
        private static final int MOST_THINGS = 40;
        private static final int HIGHEST_UNIT = 100_000_000;

        private final Output output;
        private final Symbols symbols;
        private final Room room;

        Printer(Output output, Symbols symbols, Room room) {
            this.output = output;
            this.symbols = symbols;
            this.room = room;
        }

        void printLine(int value) {
            print(value, 0);
            output.put((char) 10);
        }

        private void print(int value, int open) {
            switch (Value.kind(value)) {
                case Value.NUMBER:
                    printNumber(Value.content(value));
                    break;
                case Value.SYMBOL:
                case Value.PRIMITIVE:
                    printName(symbols.name(Value.content(value)));
                    break;
                case Value.PAIR:
                    if (open >= MOST_OPEN) {
                        printText("...");
                    } else {
                        printList(value, open);
                    }
                    break;
                case Value.CLOSURE:
                    printText("<fn>");
                    break;
                default:
                    printText("()");
                    break;
            }
        }

        private void printList(int list, int open) {
            int rest = list;
            // Shared pairs could make a text without end to speak of; what is lost need not be made.
            for (int i = 0; i < MOST_THINGS && Value.isPair(rest) && !output.isFull(); i++) {
                output.put(i == 0 ? '(' : ' ');
                print(room.first(rest), open + 1);
                rest = room.second(rest);
            }
            if (Value.isPair(rest)) {
                printText(" ...");
            } else if (rest != Value.NIL) {
                printText(" . ");
                print(rest, open + 1);
            }
            output.put(')');
        }

        private void printNumber(int number) {
            if (number < 0) {
                output.put('-');
            }
            int left = Math.abs(number);
            for (int unit = HIGHEST_UNIT; unit > 0; unit /= 10) {
                if (left >= unit || unit == 1) {
                    output.put((char) ('0' + left / unit % 10));
                }
            }
        }

        private void printName(long name) {
            for (int shift = 56; shift >= 0; shift -= 8) {
                int c = (int) (name >>> shift & 255);
                if (c != 0) {
                    output.put((char) c);
                }
            }
        }

        private void printText(String chars) {
            for (int i = 0; i < chars.length(); i++) {
                output.put(chars.charAt(i));
            }
        }
    }

    /** Does the steps. Each answers MORE, or what ends the form: DONE or an error. */
    private static final class Machine {
        private static final int MOST_PARAMETERS = 4;

        private final State state;
        private final Room room;
        private final Symbols symbols;
        private final Reader reader;
        private final Printer printer;
        private boolean underWay;
        private int steps;

        Machine(State state, Room room, Symbols symbols, Reader reader, Printer printer) {
            this.state = state;
            this.room = room;
            this.symbols = symbols;
            this.reader = reader;
            this.printer = printer;
        }

        /** NONE, doing nothing, if no form is under way and none is complete. */
        int step() {
            if (!underWay) {
                return begin();
            }
            steps++;
            int answer = state.evaluating ? evaluate() : giveBack();
            if (answer != MORE) {
                endForm();
            }
            return answer;
        }

        private int begin() {
            int answer = reader.read();
            if (answer == NONE) {
                return NONE;
            }
            steps = 1;
            if (answer != DONE) {
                return answer;
            }
            underWay = true;
            return evaluateNext(reader.form, Value.NIL);
        }

        private void endForm() {
            underWay = false;
            state.value = Value.NIL;
            state.environment = Value.NIL;
            state.depth = 0;
        }

        private int evaluateNext(int expression, int environment) {
            state.value = expression;
            state.environment = environment;
            state.evaluating = true;
            return MORE;
        }

        private int returnNext(int value) {
            state.value = value;
            state.evaluating = false;
            return MORE;
        }

        private int evaluate() {
            if (Value.isSymbol(state.value)) {
                return evaluateSymbol();
            }
            if (!Value.isPair(state.value)) {
                return returnNext(state.value);
            }
            int head = room.first(state.value);
            switch (Value.isSymbol(head) ? Value.content(head) : -1) {
                case Symbols.QUOTE:
                    return evaluateQuote();
                case Symbols.IF:
                    return evaluateIf();
                case Symbols.LAMBDA:
                    return evaluateLambda();
                case Symbols.DEFINE:
                    return evaluateNaming(State.DEFINE, Value.NIL);
                case Symbols.SET:
                    return evaluateNaming(State.SET, state.environment);
                default:
                    return evaluateUnder(
                            State.ARGUMENTS, room.second(state.value), state.environment, head);
            }
        }

        private int evaluateSymbol() {
            int binding = room.binding(state.value, state.environment);
            if (binding != Value.NIL) {
                return returnNext(room.second(binding));
            }
            int global = symbols.global(Value.content(state.value));
            return global == Value.UNSET ? UNBOUND : returnNext(global);
        }

        /** The environment stays: of a frame's expression it is the one in which the frame was made. */
        private int evaluateUnder(int kind, int a, int b, int expression) {
            if (!state.push(kind, a, b)) {
                return STACK;
            }
            return evaluateNext(expression, state.environment);
        }

        /** The n-th thing of the special form under way, from 0 on. */
        private int part(int n) {
            return room.first(room.tail(state.value, n));
        }

        private int evaluateQuote() {
            return room.length(state.value) == 2 ? returnNext(part(1)) : FORM;
        }

        private int evaluateIf() {
            int parts = room.length(state.value);
            if (parts != 3 && parts != 4) {
                return FORM;
            }
            return evaluateUnder(
                    State.IF, room.tail(state.value, 2), state.environment, part(1));
        }

        private int evaluateLambda() {
            if (room.length(state.value) != 3 || !areParameters(part(1))) {
                return FORM;
            }
            if (!room.hasFor(Room.CLOSURE_CELLS)) {
                return ROOM;
            }
            return returnNext(room.closure(part(1), part(2), state.environment));
        }

        private boolean areParameters(int list) {
            int rest = list;
            for (int i = 0; i < MOST_PARAMETERS && Value.isPair(rest); i++) {
                if (!Value.isSymbol(room.first(rest))) {
                    return false;
                }
                rest = room.second(rest);
            }
            return rest == Value.NIL;
        }

        private int evaluateNaming(int kind, int b) {
            if (room.length(state.value) != 3 || !Value.isSymbol(part(1))) {
                return FORM;
            }
            return evaluateUnder(kind, part(1), b, part(2));
        }

        private int giveBack() {
            switch (state.kind()) {
                case State.IF:
                    return choose();
                case State.DEFINE:
                    return define();
                case State.SET:
                    return assign();
                case State.ARGUMENTS:
                    if (!keepValue()) {
                        return ROOM;
                    }
                    return Value.isPair(state.a()) ? nextArgument() : apply();
                default:
                    printer.printLine(state.value);
                    return DONE;
            }
        }

        private int choose() {
            int branches = state.value == Value.NIL ? room.second(state.a()) : state.a();
            int environment = state.b();
            state.pop();
            if (!Value.isPair(branches)) {
                return returnNext(Value.NIL);
            }
            return evaluateNext(room.first(branches), environment);
        }

        private int define() {
            int symbol = state.a();
            symbols.setGlobal(Value.content(symbol), state.value);
            state.pop();
            return returnNext(symbol);
        }

        private int assign() {
            int binding = room.binding(state.a(), state.b());
            int symbol = Value.content(state.a());
            if (binding != Value.NIL) {
                room.setSecond(binding, state.value);
            } else if (symbols.global(symbol) != Value.UNSET) {
                symbols.setGlobal(symbol, state.value);
            } else {
                return UNBOUND;
            }
            state.pop();
            return returnNext(state.value);
        }

        private boolean keepValue() {
            if (!room.hasFor(Room.PAIR_CELLS)) {
                return false;
            }
            state.setC(room.pair(state.value, state.c()));
            return true;
        }

        private int nextArgument() {
            int rest = state.a();
            state.setA(room.second(rest));
            return evaluateNext(room.first(rest), state.b());
        }

        /** The frame's C holds the values, the last one first, and what is applied at its end. */
        private int apply() {
            int values = state.c();
            int n = room.length(values) - 1;
            int function = room.first(room.tail(values, n));
            int fault = faultOfCall(function, n);
            if (fault != MORE) {
                return fault;
            }
            // The frame stays until the cells are there: what it holds is in use when they are asked for.
            if (!room.hasFor(cellsOfCall(function, n))) {
                return ROOM;
            }
            state.pop();
            if (Value.kind(function) == Value.CLOSURE) {
                return evaluateNext(room.second(function), boundEnvironment(function, values, n));
            }
            return returnNext(primitiveResult(Value.content(function), values, n));
        }

        private int faultOfCall(int function, int n) {
            switch (Value.kind(function)) {
                case Value.CLOSURE:
                    return n == room.length(room.first(function)) ? MORE : COUNT;
                case Value.PRIMITIVE:
                    return faultOfPrimitive(Value.content(function), n);
                default:
                    return TYPE;
            }
        }

        private int faultOfPrimitive(int primitive, int n) {
            int last = room.first(state.c());
            int other = room.first(room.second(state.c()));
            switch (primitive) {
                case Symbols.LIST:
                    return MORE;
                case Symbols.ATOM:
                    return n == 1 ? MORE : COUNT;
                case Symbols.CAR:
                case Symbols.CDR:
                    if (n != 1) {
                        return COUNT;
                    }
                    return Value.isPair(last) ? MORE : TYPE;
                case Symbols.CONS:
                case Symbols.SAME:
                    return n == 2 ? MORE : COUNT;
                default:
                    if (n != 2) {
                        return COUNT;
                    }
                    return Value.isNumber(last) && Value.isNumber(other) ? MORE : TYPE;
            }
        }

        private static int cellsOfCall(int function, int n) {
            if (Value.kind(function) == Value.CLOSURE) {
                return 2 * n * Room.PAIR_CELLS;
            }
            switch (Value.content(function)) {
                case Symbols.CONS:
                    return Room.PAIR_CELLS;
                case Symbols.LIST:
                    return n * Room.PAIR_CELLS;
                default:
                    return 0;
            }
        }

        private int boundEnvironment(int closure, int values, int n) {
            int environment = room.third(closure);
            int parameters = room.first(closure);
            for (int i = 0; i < n; i++) {
                int value = room.first(room.tail(values, n - 1 - i));
                int binding = room.pair(room.first(parameters), value);
                environment = room.pair(binding, environment);
                parameters = room.second(parameters);
            }
            return environment;
        }

        private int primitiveResult(int primitive, int values, int n) {
            int last = room.first(values);
            int other = room.first(room.second(values));
            switch (primitive) {
                case Symbols.PLUS:
                    return Value.of(Value.NUMBER, Value.content(other) + Value.content(last));
                case Symbols.MINUS:
                    return Value.of(Value.NUMBER, Value.content(other) - Value.content(last));
                case Symbols.TIMES:
                    return Value.of(Value.NUMBER, Value.content(other) * Value.content(last));
                case Symbols.LESS:
                    return truth(Value.content(other) < Value.content(last));
                case Symbols.SAME:
                    return truth(other == last);
                case Symbols.ATOM:
                    return truth(!Value.isPair(last));
                case Symbols.CONS:
                    return room.pair(other, last);
                case Symbols.CAR:
                    return room.first(last);
                case Symbols.CDR:
                    return room.second(last);
                default:
                    return listOf(values, n);
            }
        }

        private static int truth(boolean is) {
            return is ? Value.of(Value.SYMBOL, Symbols.TRUE) : Value.NIL;
        }

        private int listOf(int values, int n) {
            int list = Value.NIL;
            int rest = values;
            for (int i = 0; i < n && Value.isPair(rest); i++) {
                list = room.pair(room.first(rest), list);
                rest = room.second(rest);
            }
            return list;
        }
    }
}
