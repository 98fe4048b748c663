import java.util.ArrayDeque;
import java.util.ArrayList;
import java.util.Collections;
import java.util.Deque;
import java.util.HashMap;
import java.util.HashSet;
import java.util.IdentityHashMap;
import java.util.List;
import java.util.Map;
import java.util.Set;

/**
 * A second writing of the document, with Java's own objects for values and a full count of the cells
 * at each question. Numbers are Long, symbols Symbol, NIL is the constant NIL.
 */
final class Model {
    private static final Object NIL = new Object();
    private static final Set<String> SPECIAL = Set.of("quote", "if", "lambda", "define", "set!");

    private static final class Pair {
        Object car;
        Object cdr;

        Pair(Object car, Object cdr) {
            this.car = car;
            this.cdr = cdr;
        }
    }

    private record Symbol(String name) {
    }

    private record Primitive(String name) {
    }

    private static final class Closure {
        Object parameters;
        Object body;
        Object environment;
    }

    private static final class Frame {
        String kind;
        Object a = NIL;
        Object b = NIL;
        Object c = NIL;
    }

    private static final class Fault extends Exception {
        private static final long serialVersionUID = 1;
        final int code;

        Fault(int code) {
            this.code = code;
        }
    }

    private final int size;
    private String text = "";
    private final StringBuilder output = new StringBuilder();
    private final Set<String> known = new HashSet<>();
    private final Map<String, Object> globals = new HashMap<>();
    private final Deque<Frame> frames = new ArrayDeque<>();
    private Object value = NIL;
    private Object environment = NIL;
    private boolean evaluating;
    private boolean underWay;
    private int steps;

    Model(int size) {
        this.size = size < 20 ? 20 : size > 400 ? 400 : size;
        for (String name : List.of("+", "-", "*", "<", "eq?", "atom?", "cons", "car", "cdr", "list")) {
            known.add(name);
            globals.put(name, new Primitive(name));
        }
        known.addAll(SPECIAL);
        known.add("t");
        globals.put("t", new Symbol("t"));
    }

    boolean feed(int word, int n) {
        if (n < 1 || n > 4) {
            return false;
        }
        String more = "";
        for (int i = 0; i < n; i++) {
            char c = (char) (word >>> 8 * (n - 1 - i) & 0xFF);
            if (c != '\n' && (c < ' ' || c > '~')) {
                return false;
            }
            more += c;
        }
        if ((text + more).length() > 120) {
            return false;
        }
        text += more;
        return true;
    }

    int run(int fuel) {
        int left = Math.min(1000, Math.max(1, fuel));
        while (left-- > 0) {
            try {
                if (!underWay) {
                    if (!read()) {
                        return CellLisp.NONE;
                    }
                    continue;
                }
                steps++;
                if (evaluating) {
                    eval();
                } else if (!frames.isEmpty()) {
                    giveBack();
                } else {
                    print(value, 0);
                    emit("\n");
                    stop();
                    return CellLisp.DONE;
                }
            } catch (Fault fault) {
                stop();
                return fault.code;
            }
        }
        return CellLisp.MORE;
    }

    int outSize() {
        return output.length();
    }

    int out(int i) {
        return i < 0 || i >= output.length() ? -1 : output.charAt(i);
    }

    void clearOut() {
        output.setLength(0);
    }

    int liveCells() {
        Set<Object> seen = Collections.newSetFromMap(new IdentityHashMap<>());
        Deque<Object> left = new ArrayDeque<>(globals.values());
        left.add(value);
        left.add(environment);
        for (Frame frame : frames) {
            left.addAll(List.of(frame.a, frame.b, frame.c));
        }
        int cells = 0;
        while (!left.isEmpty()) {
            Object next = left.pop();
            if (next instanceof Pair pair && seen.add(pair)) {
                cells += 2;
                left.addAll(List.of(pair.car, pair.cdr));
            } else if (next instanceof Closure closure && seen.add(closure)) {
                cells += 3;
                left.addAll(List.of(closure.parameters, closure.body, closure.environment));
            }
        }
        return cells;
    }

    int count(int what) {
        int[] counts = {text.length(), frames.size(), known.size(), steps};
        return what < 0 || what > 3 ? -1 : counts[what];
    }

    private void stop() {
        underWay = false;
        value = NIL;
        environment = NIL;
        frames.clear();
    }

    private void ask(int cells) throws Fault {
        if (liveCells() + cells > size) {
            throw new Fault(CellLisp.ROOM);
        }
    }

    // ---- reading

    /** Thrown when the text ends before the form does. */
    private static final class Ends extends Exception {
        private static final long serialVersionUID = 1;
    }

    private int at;
    private int open;

    /** What a form is before its symbols are known: a String for a word, a List for a list. */
    private Object parse() throws Ends, Fault {
        char c = skip();
        if (c == ')') {
            throw syntax();
        }
        if (c == '\'') {
            at++;
            char next = skip();
            if (next == '\'' || next == ')') {
                throw syntax();
            }
            return List.of("quote", parse());
        }
        if (c != '(') {
            return parseWord();
        }
        if (open == 10) {
            throw syntax();
        }
        at++;
        open++;
        List<Object> things = new ArrayList<>();
        while (skip() != ')') {
            things.add(parse());
        }
        at++;
        open--;
        return things;
    }

    private Fault syntax() {
        at++;
        return new Fault(CellLisp.SYNTAX);
    }

    private char skip() throws Ends {
        while (at < text.length() && (text.charAt(at) == ' ' || text.charAt(at) == '\n')) {
            at++;
        }
        if (at == text.length()) {
            throw new Ends();
        }
        return text.charAt(at);
    }

    private String parseWord() throws Ends {
        int from = at;
        while (at < text.length() && " \n()'".indexOf(text.charAt(at)) < 0) {
            at++;
        }
        if (at == text.length()) {
            throw new Ends();
        }
        return text.substring(from, at);
    }

    private boolean read() throws Fault {
        at = 0;
        open = 0;
        Object tree;
        try {
            tree = parse();
        } catch (Ends ends) {
            return false;
        } catch (Fault fault) {
            text = text.substring(at);
            steps = 1;
            throw fault;
        }
        text = text.substring(at);
        steps = 1;
        learn(tree);
        ask(cellsOf(tree));
        value = toValue(tree);
        environment = NIL;
        evaluating = true;
        underWay = true;
        return true;
    }

    private static boolean isNumber(String word) {
        return word.matches("-?[0-9]{1,9}");
    }

    private static String cut(String word) {
        return word.length() > 8 ? word.substring(0, 8) : word;
    }

    private void learn(Object tree) throws Fault {
        if (tree instanceof List<?> list) {
            for (Object thing : list) {
                learn(thing);
            }
        } else if (tree instanceof String word && !isNumber(word) && !word.equals("nil")) {
            if (!known.contains(cut(word)) && known.size() == 40) {
                throw new Fault(CellLisp.SYMBOLS);
            }
            known.add(cut(word));
        }
    }

    private static int cellsOf(Object tree) {
        int cells = 0;
        if (tree instanceof List<?> list) {
            for (Object thing : list) {
                cells += 2 + cellsOf(thing);
            }
        }
        return cells;
    }

    private static Object toValue(Object tree) {
        if (tree instanceof List<?> list) {
            Object rest = NIL;
            for (int i = list.size() - 1; i >= 0; i--) {
                rest = new Pair(toValue(list.get(i)), rest);
            }
            return rest;
        }
        String word = (String) tree;
        if (isNumber(word)) {
            return wrap(Long.parseLong(word));
        }
        return word.equals("nil") ? NIL : new Symbol(cut(word));
    }

    private static Long wrap(long number) {
        return Math.floorMod(number + 268435456L, 536870912L) - 268435456L;
    }

    // ---- steps

    private static List<Object> elements(Object list) {
        List<Object> all = new ArrayList<>();
        for (Object rest = list; rest instanceof Pair pair; rest = pair.cdr) {
            all.add(pair.car);
        }
        return all;
    }

    private void push(String kind, Object a, Object b) throws Fault {
        if (frames.size() == 30) {
            throw new Fault(CellLisp.STACK);
        }
        Frame frame = new Frame();
        frame.kind = kind;
        frame.a = a;
        frame.b = b;
        frames.push(frame);
    }

    private Pair bindingOf(Object symbol, Object where) {
        for (Object rest = where; rest instanceof Pair pair; rest = pair.cdr) {
            Pair binding = (Pair) pair.car;
            if (binding.car.equals(symbol)) {
                return binding;
            }
        }
        return null;
    }

    private void giveValue(Object result) {
        value = result;
        evaluating = false;
    }

    private void eval() throws Fault {
        if (value instanceof Symbol symbol) {
            Pair binding = bindingOf(symbol, environment);
            Object found = binding != null ? binding.cdr : globals.get(symbol.name());
            if (found == null) {
                throw new Fault(CellLisp.UNBOUND);
            }
            giveValue(found);
        } else if (value instanceof Pair pair) {
            if (pair.car instanceof Symbol symbol && SPECIAL.contains(symbol.name())) {
                evalSpecial(symbol.name(), elements(pair), pair);
            } else {
                push("ARGUMENTS", pair.cdr, environment);
                value = pair.car;
            }
        } else {
            giveValue(value);
        }
    }

    private void evalSpecial(String name, List<Object> parts, Pair form) throws Fault {
        int n = parts.size();
        if (name.equals("quote") && n == 2) {
            giveValue(parts.get(1));
        } else if (name.equals("if") && (n == 3 || n == 4)) {
            push("IF", ((Pair) form.cdr).cdr, environment);
            value = parts.get(1);
        } else if (name.equals("lambda") && n == 3 && areParameters(parts.get(1))) {
            ask(3);
            Closure closure = new Closure();
            closure.parameters = parts.get(1);
            closure.body = parts.get(2);
            closure.environment = environment;
            giveValue(closure);
        } else if (name.equals("define") && n == 3 && parts.get(1) instanceof Symbol) {
            push("DEFINE", parts.get(1), NIL);
            value = parts.get(2);
        } else if (name.equals("set!") && n == 3 && parts.get(1) instanceof Symbol) {
            push("SET", parts.get(1), environment);
            value = parts.get(2);
        } else {
            throw new Fault(CellLisp.FORM);
        }
    }

    private static boolean areParameters(Object list) {
        if (list != NIL && !(list instanceof Pair)) {
            return false;
        }
        List<Object> all = elements(list);
        return all.size() <= 4 && all.stream().allMatch(one -> one instanceof Symbol);
    }

    private void giveBack() throws Fault {
        Frame frame = frames.peek();
        switch (frame.kind) {
            case "IF" -> {
                frames.pop();
                List<Object> branches = elements(frame.a);
                int which = value == NIL ? 1 : 0;
                if (which < branches.size()) {
                    value = branches.get(which);
                    environment = frame.b;
                    evaluating = true;
                }
            }
            case "DEFINE" -> {
                frames.pop();
                globals.put(((Symbol) frame.a).name(), value);
                value = frame.a;
            }
            case "SET" -> {
                frames.pop();
                Pair binding = bindingOf(frame.a, frame.b);
                String name = ((Symbol) frame.a).name();
                if (binding != null) {
                    binding.cdr = value;
                } else if (globals.containsKey(name)) {
                    globals.put(name, value);
                } else {
                    throw new Fault(CellLisp.UNBOUND);
                }
            }
            default -> {
                ask(2);
                frame.c = new Pair(value, frame.c);
                if (frame.a instanceof Pair rest) {
                    frame.a = rest.cdr;
                    value = rest.car;
                    environment = frame.b;
                    evaluating = true;
                } else {
                    List<Object> values = elements(frame.c);
                    Collections.reverse(values);
                    apply(values.get(0), values.subList(1, values.size()));
                    frames.remove(frame);
                }
            }
        }
    }

    private void apply(Object function, List<Object> values) throws Fault {
        if (function instanceof Closure closure) {
            List<Object> parameters = elements(closure.parameters);
            if (parameters.size() != values.size()) {
                throw new Fault(CellLisp.COUNT);
            }
            ask(4 * values.size());
            Object inner = closure.environment;
            for (int i = 0; i < values.size(); i++) {
                inner = new Pair(new Pair(parameters.get(i), values.get(i)), inner);
            }
            environment = inner;
            value = closure.body;
            evaluating = true;
        } else if (function instanceof Primitive primitive) {
            giveValue(applyPrimitive(primitive.name(), values));
        } else {
            throw new Fault(CellLisp.TYPE);
        }
    }

    private Object applyPrimitive(String name, List<Object> values) throws Fault {
        if (name.equals("list")) {
            ask(2 * values.size());
            Object all = NIL;
            for (int i = values.size() - 1; i >= 0; i--) {
                all = new Pair(values.get(i), all);
            }
            return all;
        }
        boolean one = name.equals("atom?") || name.equals("car") || name.equals("cdr");
        if (values.size() != (one ? 1 : 2)) {
            throw new Fault(CellLisp.COUNT);
        }
        Object x = values.get(0);
        if (name.equals("atom?")) {
            return truth(!(x instanceof Pair));
        }
        if (one) {
            if (x instanceof Pair pair) {
                return name.equals("car") ? pair.car : pair.cdr;
            }
            throw new Fault(CellLisp.TYPE);
        }
        Object y = values.get(1);
        if (name.equals("cons")) {
            ask(2);
            return new Pair(x, y);
        }
        if (name.equals("eq?")) {
            return truth(x.equals(y));
        }
        if (!(x instanceof Long) || !(y instanceof Long)) {
            throw new Fault(CellLisp.TYPE);
        }
        long a = (Long) x;
        long b = (Long) y;
        return switch (name) {
            case "+" -> wrap(a + b);
            case "-" -> wrap(a - b);
            case "*" -> wrap(a * b);
            default -> truth(a < b);
        };
    }

    private static Object truth(boolean is) {
        return is ? new Symbol("t") : NIL;
    }

    // ---- printing

    private void emit(String more) {
        output.append(more);
        if (output.length() > 200) {
            output.setLength(200);
        }
    }

    private void print(Object thing, int within) {
        if (output.length() >= 200) {
            return;
        }
        if (thing instanceof Long || thing == NIL) {
            emit(thing == NIL ? "()" : thing.toString());
        } else if (thing instanceof Symbol symbol) {
            emit(symbol.name());
        } else if (thing instanceof Primitive primitive) {
            emit(primitive.name());
        } else if (thing instanceof Closure) {
            emit("<fn>");
        } else if (within == 16) {
            emit("...");
        } else {
            emit("(");
            Object rest = thing;
            for (int i = 0; i < 40 && rest instanceof Pair pair; i++) {
                emit(i > 0 ? " " : "");
                print(pair.car, within + 1);
                rest = pair.cdr;
            }
            if (rest instanceof Pair) {
                emit(" ...");
            } else if (rest != NIL) {
                emit(" . ");
                print(rest, within + 1);
            }
            emit(")");
        }
    }
}
