import java.util.ArrayList;
import java.util.Arrays;
import java.util.List;
import java.util.TreeSet;
import java.util.regex.Matcher;
import java.util.regex.Pattern;

/**
 * The document once more, written as plainly as can be and in another way than the class: a tree, one pass for
 * each KIND of FAULT, SHAPES by following all ways, and a machine that keeps a whole copy of itself for BACK.
 */
final class Model {
    static final long LOW = -9000000000000000L;
    static final long BEYOND = LOW - 1;
    static final long MISSING = LOW - 2;
    static final long SIZE = LOW - 3;
    static final long KIND = LOW - 4;
    static final long FULL = LOW - 5;
    static final long NONE = LOW - 6;
    static final long HALTED = LOW - 7;
    static final List<String> TYPES = List.of("int", "bool", "row", "list");
    static final List<String> KEYS = List.of(("fun if else while return print int bool row list true false none not"
        + " and or new size head tail").split(" "));

    private final StringBuilder tape = new StringBuilder();
    private long faultKind = 0;
    private long faultPlace = -1;
    private Code code = null;
    State state = null;
    private final ArrayList<State> past = new ArrayList<>();
    private final ArrayList<long[]> proofs = new ArrayList<>();
    private final int[] bits = new int[4];
    private final int[][] numbers = new int[4][0];
    private final long[] counts = new long[8];

    // ---- the tree

    static final class Bad extends RuntimeException {
        final int place;

        Bad(int place) {
            super(null, null, false, false);
            this.place = place;
        }
    }

    record Token(String sort, String text, int at) { }

    static final class Node {
        final String what;
        final int at;
        final String name;
        final List<Node> parts = new ArrayList<>();
        int nameAt;

        Node(String what, int at, String name, Node... parts) {
            this.what = what;
            this.at = at;
            this.name = name;
            this.nameAt = at;
            this.parts.addAll(Arrays.asList(parts));
        }
    }

    static final class Fun {
        String name;
        int nameAt;
        int type;
        final List<Node> params = new ArrayList<>();
        List<Node> body;
        final List<String> names = new ArrayList<>();
        final List<Integer> types = new ArrayList<>();
        int first;
    }

    private static final Pattern TOKEN = Pattern.compile("([a-z]+)|([0-9]+)|([(){}\\[\\],;:=<+\\-*/])|([ \n])|(.)",
        Pattern.DOTALL);

    private static List<Token> tokens(String text) {
        List<Token> all = new ArrayList<>();
        Matcher m = TOKEN.matcher(text);
        while (m.find()) {
            String t = m.group();
            if (m.group(1) != null) {
                String sort = t.length() == 1 ? "name" : KEYS.contains(t) ? t : "bad";
                all.add(new Token(sort, t, m.start()));
            } else if (m.group(2) != null) {
                all.add(new Token(t.length() > 5 ? "bad" : "number", t, m.start()));
            } else if (m.group(3) != null) {
                all.add(new Token(t, t, m.start()));
            } else if (m.group(5) != null) {
                all.add(new Token("bad", t, m.start()));
            }
        }
        all.add(new Token("end", "", text.length()));
        return all;
    }

    private static final class Parser {
        private final List<Token> tokens;
        private int next = 0;

        Parser(String text) {
            tokens = tokens(text);
        }

        private boolean sees(String... sorts) {
            return Arrays.asList(sorts).contains(tokens.get(next).sort);
        }

        private Token take(String... sorts) {
            if (!sees(sorts)) {
                throw new Bad(tokens.get(next).at);
            }
            return tokens.get(next++);
        }

        private int here() {
            return tokens.get(next).at;
        }

        List<Fun> text() {
            List<Fun> funs = new ArrayList<>();
            do {
                if (funs.size() == 5) {
                    throw new Bad(here());
                }
                funs.add(fun());
            } while (!sees("end"));
            return funs;
        }

        private int type() {
            return TYPES.indexOf(take("int", "bool", "row", "list").text);
        }

        private Fun fun() {
            Fun f = new Fun();
            take("fun");
            f.nameAt = here();
            f.name = take("name").text;
            take("(");
            if (!sees(")")) {
                do {
                    int type = type();
                    Token name = take("name");
                    f.params.add(new Node("param" + type, name.at, name.text));
                } while (comma());
            }
            take(")");
            f.type = type();
            f.body = block();
            return f;
        }

        private boolean comma() {
            if (sees(",")) {
                next++;
                return true;
            }
            return false;
        }

        private List<Node> block() {
            List<Node> all = new ArrayList<>();
            take("{");
            while (!sees("}")) {
                all.add(statement());
            }
            take("}");
            return all;
        }

        private static Node blockNode(List<Node> statements) {
            Node n = new Node("block", 0, "");
            n.parts.addAll(statements);
            return n;
        }

        private Node statement() {
            int at = here();
            if (sees("if", "while")) {
                Node n = new Node(take("if", "while").sort, at, "", e(0));
                n.parts.add(blockNode(block()));
                if (n.what.equals("if") && sees("else")) {
                    next++;
                    n.parts.add(blockNode(block()));
                }
                return n;
            }
            Node n;
            if (sees("return", "print")) {
                n = new Node(take("return", "print").sort, at, "", e(0));
            } else if (sees("name")) {
                String name = take("name").text;
                if (sees("[")) {
                    next++;
                    Node i = e(0);
                    take("]");
                    take("=");
                    n = new Node("put", at, name, i, e(0));
                } else {
                    take("=");
                    n = new Node("set", at, name, e(0));
                }
            } else {
                int type = type();
                Token name = take("name");
                take("=");
                n = new Node("var" + type, at, name.text, e(0));
                n.nameAt = name.at;
            }
            take(";");
            return n;
        }

        private Node e(int inside) {
            if (inside == 8) {
                throw new Bad(here());
            }
            Node left = or(inside + 1);
            if (sees(":")) {
                int at = take(":").at;
                return new Node(":", at, "", left, e(inside + 1));
            }
            return left;
        }

        private Node or(int inside) {
            Node n = and(inside);
            while (sees("or")) {
                int at = take("or").at;
                n = new Node("or", at, "", n, and(inside));
            }
            return n;
        }

        private Node and(int inside) {
            Node n = less(inside);
            while (sees("and")) {
                int at = take("and").at;
                n = new Node("and", at, "", n, less(inside));
            }
            return n;
        }

        private Node less(int inside) {
            Node n = sum(inside);
            if (sees("<", "=")) {
                Token t = take("<", "=");
                n = new Node(t.text, t.at, "", n, sum(inside));
            }
            return n;
        }

        private Node sum(int inside) {
            Node n = term(inside);
            while (sees("+", "-")) {
                Token t = take("+", "-");
                n = new Node(t.text, t.at, "", n, term(inside));
            }
            return n;
        }

        private Node term(int inside) {
            Node n = under(inside);
            while (sees("*", "/")) {
                Token t = take("*", "/");
                n = new Node(t.text, t.at, "", n, under(inside));
            }
            return n;
        }

        private Node under(int inside) {
            if (inside == 8) {
                throw new Bad(here());
            }
            if (sees("-", "not", "size", "head", "tail", "new")) {
                Token t = take("-", "not", "size", "head", "tail", "new");
                return new Node(t.sort.equals("-") ? "minus" : t.sort, t.at, "", under(inside + 1));
            }
            Node n = one(inside + 1);
            while (sees("[")) {
                int at = take("[").at;
                n = new Node("[]", at, "", n, e(inside + 1));
                take("]");
            }
            return n;
        }

        private Node one(int inside) {
            Token t = take("number", "true", "false", "none", "name", "(");
            if (t.sort.equals("(")) {
                Node n = e(inside);
                take(")");
                return n;
            }
            if (!t.sort.equals("name") || !sees("(")) {
                return new Node(t.sort, t.at, t.text);
            }
            Node call = new Node("call", t.at, t.text);
            take("(");
            if (!sees(")")) {
                do {
                    call.parts.add(e(inside));
                } while (comma());
            }
            take(")");
            return call;
        }
    }

    // ---- names

    private static int funNamed(List<Fun> funs, String name, int upTo) {
        for (int f = 0; f <= upTo; f++) {
            if (funs.get(f).name.equals(name)) {
                return f;
            }
        }
        return -1;
    }

    private static void declare(Fun f, String name, int type, int at, TreeSet<Integer> faults) {
        if (f.names.contains(name) || f.names.size() == 6) {
            faults.add(at);
        } else {
            f.names.add(name);
            f.types.add(type);
        }
    }

    private static TreeSet<Integer> nameFaults(List<Fun> funs) {
        TreeSet<Integer> faults = new TreeSet<>();
        for (int f = 0; f < funs.size(); f++) {
            Fun fun = funs.get(f);
            if (funNamed(funs, fun.name, f - 1) >= 0) {
                faults.add(fun.nameAt);
            }
            for (Node p : fun.params) {
                declare(fun, p.name, p.what.charAt(5) - '0', p.at, faults);
            }
            for (Node s : fun.body) {
                askNames(funs, f, s, faults);
            }
        }
        Fun last = funs.get(funs.size() - 1);
        if (!last.params.isEmpty()) {
            faults.add(last.nameAt);
        }
        return faults;
    }

    private static void askNames(List<Fun> funs, int f, Node n, TreeSet<Integer> faults) {
        Fun fun = funs.get(f);
        boolean uses = n.what.equals("name") || n.what.equals("set") || n.what.equals("put");
        if (uses && !fun.names.contains(n.name)) {
            faults.add(n.at);
        }
        if (n.what.equals("call")) {
            int called = funNamed(funs, n.name, f);
            if (called < 0 || funs.get(called).params.size() != n.parts.size()) {
                faults.add(n.at);
            }
        }
        for (Node part : n.parts) {
            askNames(funs, f, part, faults);
        }
        if (n.what.startsWith("var")) {
            declare(fun, n.name, n.what.charAt(3) - '0', n.nameAt, faults);
        }
    }

    // ---- types

    /** The TYPE of an E, -1 of others; a Bad for the first one that is wrong. */
    private static int typeOf(List<Fun> funs, Fun fun, Node n) {
        List<Integer> got = new ArrayList<>();
        if (n.what.equals("if") || n.what.equals("while")) {
            ask(typeOf(funs, fun, n.parts.get(0)) == 1, n);
            for (Node part : n.parts.subList(1, n.parts.size())) {
                typeOf(funs, fun, part);
            }
            return -1;
        }
        for (Node part : n.parts) {
            got.add(typeOf(funs, fun, part));
        }
        switch (n.what) {
            case "number":
                return 0;
            case "true", "false":
                return 1;
            case "none":
                return 3;
            case "name":
                return fun.types.get(fun.names.indexOf(n.name));
            case "call":
                Fun called = funs.get(funNamed(funs, n.name, funs.indexOf(fun)));
                ask(got.equals(called.types.subList(0, called.params.size())), n);
                return called.type;
            case "or", "and":
                return asked(got.equals(List.of(1, 1)), n, 1);
            case "not":
                return asked(got.equals(List.of(1)), n, 1);
            case "<":
                return asked(got.equals(List.of(0, 0)), n, 1);
            case "+", "-", "*", "/":
                return asked(got.equals(List.of(0, 0)), n, 0);
            case "minus":
                return asked(got.equals(List.of(0)), n, 0);
            case "=":
                return asked(got.equals(List.of(0, 0)) || got.equals(List.of(1, 1)), n, 1);
            case "size":
                return asked(got.equals(List.of(2)), n, 0);
            case "head":
                return asked(got.equals(List.of(3)), n, 0);
            case "tail":
                return asked(got.equals(List.of(3)), n, 3);
            case "new":
                return asked(got.equals(List.of(0)), n, 2);
            case "[]":
                return asked(got.equals(List.of(2, 0)), n, 0);
            case ":":
                return asked(got.equals(List.of(0, 3)), n, 3);
            case "put":
                return asked(fun.types.get(fun.names.indexOf(n.name)) == 2 && got.equals(List.of(0, 0)), n, -1);
            case "return":
                return asked(got.get(0) == fun.type, n, -1);
            case "print":
                return asked(got.get(0) < 2, n, -1);
            case "block":
                return -1;
            default:
                return asked(got.get(0).equals(fun.types.get(fun.names.indexOf(n.name))), n, -1);
        }
    }

    private static void ask(boolean right, Node n) {
        if (!right) {
            throw new Bad(n.at);
        }
    }

    private static int asked(boolean right, Node n, int type) {
        ask(right, n);
        return type;
    }

    // ---- code

    static final class Code {
        final List<Fun> funs;
        final List<int[]> places = new ArrayList<>();
        final List<List<Integer>> shapes = new ArrayList<>();

        Code(List<Fun> funs) {
            this.funs = funs;
            for (Fun f : funs) {
                f.first = places.size();
                for (Node s : f.body) {
                    make(f, s);
                }
                add(27, f.type);
                add(25, 0);
            }
            for (int i = 0; i < places.size(); i++) {
                shapes.add(null);
            }
            for (Fun f : funs) {
                follow(f, f.first, List.of());
            }
        }

        private int add(int op, int argument) {
            places.add(new int[] {op, argument});
            return places.size() - 1;
        }

        private static final List<String> OPS = List.of("number", "true", "none", "name", "call", "minus", "not",
            "size", "head", "tail", "new", "[]", ":", "or", "and", "<", "=", "+", "-", "*", "/");

        private void make(Fun f, Node n) {
            if (n.what.equals("put")) {
                add(3, f.names.indexOf(n.name));
            }
            int begin = places.size();
            if (n.what.equals("if") || n.what.equals("while")) {
                make(f, n.parts.get(0));
                int branch = add(23, 0);
                make(f, n.parts.get(1));
                int jump = -1;
                if (n.what.equals("while")) {
                    add(24, begin);
                } else if (n.parts.size() > 2) {
                    jump = add(24, 0);
                }
                places.get(branch)[1] = places.size();
                if (jump >= 0) {
                    make(f, n.parts.get(2));
                    places.get(jump)[1] = places.size();
                }
                return;
            }
            for (Node part : n.parts) {
                make(f, part);
            }
            switch (n.what) {
                case "number" -> add(0, Integer.parseInt(n.name));
                case "true" -> add(1, 1);
                case "false" -> add(1, 0);
                case "name" -> add(3, f.names.indexOf(n.name));
                case "call" -> add(4, funNamed(funs, n.name, funs.indexOf(f)));
                case "put" -> add(22, 0);
                case "return" -> add(25, 0);
                case "print" -> add(26, 0);
                case "block" -> { }
                default -> {
                    if (OPS.contains(n.what)) {
                        add(OPS.indexOf(n.what), 0);
                    } else {
                        add(21, f.names.indexOf(n.name));
                    }
                }
            }
        }

        private void follow(Fun f, int place, List<Integer> shape) {
            ArrayList<Object[]> todo = new ArrayList<>();
            todo.add(new Object[] {place, shape});
            while (!todo.isEmpty()) {
                Object[] one = todo.remove(todo.size() - 1);
                int at = (Integer) one[0];
                @SuppressWarnings("unchecked")
                List<Integer> ahead = (List<Integer>) one[1];
                if (shapes.get(at) != null) {
                    if (!shapes.get(at).equals(ahead)) {
                        throw new IllegalStateException("two shapes at " + at);
                    }
                    continue;
                }
                shapes.set(at, ahead);
                int op = places.get(at)[0];
                int argument = places.get(at)[1];
                List<Integer> behind = behind(f, ahead, op, argument);
                if (op == 23 || op == 24) {
                    todo.add(new Object[] {argument, behind});
                }
                if (op != 24 && op != 25) {
                    todo.add(new Object[] {at + 1, behind});
                }
            }
        }

        private List<Integer> behind(Fun f, List<Integer> ahead, int op, int argument) {
            int taken = switch (op) {
                case 0, 1, 2, 3, 24, 27 -> 0;
                case 4 -> funs.get(argument).params.size();
                case 5, 6, 7, 8, 9, 10, 21, 23, 25, 26 -> 1;
                case 22 -> 3;
                default -> 2;
            };
            int put = switch (op) {
                case 0, 5, 7, 8, 11, 17, 18, 19, 20 -> 0;
                case 1, 6, 13, 14, 15, 16 -> 1;
                case 10 -> 2;
                case 2, 9, 12 -> 3;
                case 3 -> f.types.get(argument);
                case 4 -> funs.get(argument).type;
                case 27 -> argument;
                default -> -1;
            };
            List<Integer> behind = new ArrayList<>(ahead.subList(0, ahead.size() - taken));
            if (put >= 0) {
                behind.add(put);
            }
            return behind;
        }

        long shape(int place) {
            List<Integer> types = shapes.get(place);
            if (types == null) {
                return 3125;
            }
            long number = 0;
            for (int type : types) {
                number = number * 5 + type + 1;
            }
            return number;
        }
    }

    // ---- the machine

    static final class Frame {
        final int fun;
        int place;
        final int[] variables;

        Frame(int fun, int place, int[] variables) {
            this.fun = fun;
            this.place = place;
            this.variables = variables;
        }
    }

    static final class State {
        final ArrayList<int[]> stack = new ArrayList<>();
        final ArrayList<Frame> frames = new ArrayList<>();
        /** null: free; a row: {1, numbers ..}; a PAIR: {2, int, list}. */
        final int[][] heap = new int[17][];
        final ArrayList<Integer> printed = new ArrayList<>();
        int halt = 0;
        int steps = 0;
        int clears = 0;
        int result = 0;

        State copyOf() {
            State s = new State();
            for (int[] v : stack) {
                s.stack.add(v.clone());
            }
            for (Frame f : frames) {
                s.frames.add(new Frame(f.fun, f.place, f.variables.clone()));
            }
            for (int o = 1; o <= 16; o++) {
                s.heap[o] = heap[o] == null ? null : heap[o].clone();
            }
            s.printed.addAll(printed);
            s.halt = halt;
            s.steps = steps;
            s.clears = clears;
            s.result = result;
            return s;
        }

        int free() {
            for (int o = 1; o <= 16; o++) {
                if (heap[o] == null) {
                    return o;
                }
            }
            return 0;
        }

        int clearHeap(Code code) {
            boolean[] held = new boolean[17];
            for (int[] v : stack) {
                hold(held, v[0], v[1]);
            }
            for (Frame f : frames) {
                for (int v = 0; v < f.variables.length; v++) {
                    hold(held, f.variables[v], code.funs.get(f.fun).types.get(v));
                }
            }
            int freed = 0;
            for (int o = 1; o <= 16; o++) {
                if (heap[o] != null && !held[o]) {
                    heap[o] = null;
                    freed++;
                }
            }
            clears++;
            return freed;
        }

        private void hold(boolean[] held, int value, int type) {
            if (type >= 2 && value != 0 && !held[value]) {
                held[value] = true;
                if (heap[value][0] == 2) {
                    hold(held, heap[value][2], 3);
                }
            }
        }
    }

    private static final class Halt extends RuntimeException {
        final int by;

        Halt(int by) {
            super(null, null, false, false);
            this.by = by;
        }
    }

    /** The PROOF of one STEP, or null if the STEP HALTS. */
    private static long[] advance(Code code, State s) {
        if (s.halt != 0) {
            return null;
        }
        State ahead = s.copyOf();
        Frame frame = s.frames.get(s.frames.size() - 1);
        long[] proof = {frame.place, s.stack.size(), 0, 0};
        try {
            perform(code, s, frame);
        } catch (Halt h) {
            int clears = s.clears;
            become(s, ahead);
            s.clears = clears;
            s.halt = h.by;
            return null;
        }
        s.steps++;
        proof[2] = s.stack.size();
        proof[3] = s.stack.isEmpty() ? 0 : s.stack.get(s.stack.size() - 1)[0];
        return proof;
    }

    private static void become(State s, State other) {
        State o = other.copyOf();
        s.stack.clear();
        s.stack.addAll(o.stack);
        s.frames.clear();
        s.frames.addAll(o.frames);
        System.arraycopy(o.heap, 0, s.heap, 0, 17);
        s.printed.clear();
        s.printed.addAll(o.printed);
        s.halt = o.halt;
        s.steps = o.steps;
        s.clears = o.clears;
        s.result = o.result;
    }

    private static int pop(State s) {
        return s.stack.remove(s.stack.size() - 1)[0];
    }

    private static void push(State s, int value, int type) {
        if (s.stack.size() == 30) {
            throw new Halt(7);
        }
        s.stack.add(new int[] {value, type});
    }

    private static int allocate(Code code, State s) {
        int o = s.free();
        if (o == 0) {
            s.clearHeap(code);
            o = s.free();
        }
        if (o == 0) {
            throw new Halt(6);
        }
        return o;
    }

    private static int[] rowOf(State s, int row, int i) {
        if (row == 0) {
            throw new Halt(4);
        }
        if (i < 0 || i >= s.heap[row].length - 1) {
            throw new Halt(3);
        }
        return s.heap[row];
    }

    private static int held(int o) {
        if (o == 0) {
            throw new Halt(4);
        }
        return o;
    }

    private static void perform(Code code, State s, Frame frame) {
        int op = code.places.get(frame.place)[0];
        int argument = code.places.get(frame.place)[1];
        Fun fun = code.funs.get(frame.fun);
        frame.place++;
        int top = s.stack.isEmpty() ? 0 : s.stack.get(s.stack.size() - 1)[0];
        switch (op) {
            case 0 -> push(s, argument, 0);
            case 1 -> push(s, argument, 1);
            case 2 -> push(s, 0, 3);
            case 3 -> push(s, frame.variables[argument], fun.types.get(argument));
            case 4 -> call(code, s, argument);
            case 5 -> push(s, -pop(s), 0);
            case 6 -> push(s, pop(s) == 0 ? 1 : 0, 1);
            case 7 -> push(s, s.heap[held(pop(s))].length - 1, 0);
            case 8 -> push(s, s.heap[held(pop(s))][1], 0);
            case 9 -> push(s, s.heap[held(pop(s))][2], 3);
            case 10 -> {
                if (top < 0 || top > 9) {
                    throw new Halt(5);
                }
                int o = allocate(code, s);
                s.heap[o] = new int[1 + pop(s)];
                s.heap[o][0] = 1;
                push(s, o, 2);
            }
            case 12 -> {
                int o = allocate(code, s);
                int list = pop(s);
                s.heap[o] = new int[] {2, pop(s), list};
                push(s, o, 3);
            }
            case 21 -> frame.variables[argument] = pop(s);
            case 22 -> {
                int value = pop(s);
                int i = pop(s);
                rowOf(s, pop(s), i)[1 + i] = value;
            }
            case 23 -> frame.place = pop(s) == 0 ? argument : frame.place;
            case 24 -> frame.place = argument;
            case 25 -> {
                s.frames.remove(s.frames.size() - 1);
                if (s.frames.isEmpty()) {
                    s.result = pop(s);
                    s.halt = 1;
                }
            }
            case 26 -> {
                if (s.printed.size() == 20) {
                    throw new Halt(8);
                }
                s.printed.add(pop(s));
            }
            case 27 -> push(s, 0, argument);
            default -> two(s, op);
        }
    }

    private static void two(State s, int op) {
        int b = pop(s);
        int a = pop(s);
        switch (op) {
            case 11 -> push(s, rowOf(s, a, b)[1 + b], 0);
            case 13 -> push(s, a + b > 0 ? 1 : 0, 1);
            case 14 -> push(s, a + b > 1 ? 1 : 0, 1);
            case 15 -> push(s, a < b ? 1 : 0, 1);
            case 16 -> push(s, a == b ? 1 : 0, 1);
            case 17 -> push(s, a + b, 0);
            case 18 -> push(s, a - b, 0);
            case 19 -> push(s, a * b, 0);
            default -> {
                if (b == 0) {
                    throw new Halt(2);
                }
                push(s, (int) ((long) a / b), 0);
            }
        }
    }

    private static void call(Code code, State s, int called) {
        if (s.frames.size() == 8) {
            throw new Halt(7);
        }
        Fun f = code.funs.get(called);
        int[] variables = new int[f.names.size()];
        for (int p = f.params.size() - 1; p >= 0; p--) {
            variables[p] = pop(s);
        }
        s.frames.add(new Frame(called, f.first, variables));
    }

    // ---- the face

    private long finding(long f) {
        counts[(int) (LOW - f)]++;
        return f;
    }

    long feed(int n, long bytes) {
        if (n < 1 || n > 8) {
            return finding(BEYOND);
        }
        if (tape.length() + n > 240) {
            return finding(FULL);
        }
        for (int i = 0; i < n; i++) {
            tape.append((char) (bytes >> 8 * i & 0xff));
        }
        return tape.length();
    }

    long text() {
        String text = tape.toString();
        tape.setLength(0);
        faultKind = 1;
        try {
            List<Fun> funs = new Parser(text).text();
            faultKind = 2;
            TreeSet<Integer> faults = nameFaults(funs);
            if (!faults.isEmpty()) {
                throw new Bad(faults.first());
            }
            faultKind = 3;
            for (Fun f : funs) {
                for (Node s : f.body) {
                    typeOf(funs, f, s);
                }
            }
            faultKind = 4;
            Code made = new Code(funs);
            if (made.places.size() > 200) {
                throw new Bad(text.length());
            }
            faultKind = 0;
            faultPlace = -1;
            code = made;
            state = null;
            return code.places.size();
        } catch (Bad bad) {
            faultPlace = bad.place;
            return -1;
        }
    }

    long fault(int what) {
        return what == 0 ? faultKind : what == 1 ? faultPlace : finding(BEYOND);
    }

    private boolean isPlace(int place) {
        return code != null && place >= 0 && place < code.places.size();
    }

    long code(int place, boolean argument) {
        return isPlace(place) ? code.places.get(place)[argument ? 1 : 0] : finding(BEYOND);
    }

    long as(int place, int kind) {
        if (!isPlace(place) || kind < 0 || kind > 3) {
            return finding(BEYOND);
        }
        int op = code.places.get(place)[0];
        boolean is = List.of(true, op == 23 || op == 24, op >= 4 && op <= 20, op == 4).get(kind);
        return is ? op : finding(KIND);
    }

    long shape(int place) {
        return isPlace(place) ? code.shape(place) : finding(BEYOND);
    }

    long fun(int f, int what) {
        if (code == null || f < 0 || f >= code.funs.size() || what < 0 || what > 3) {
            return finding(BEYOND);
        }
        Fun fun = code.funs.get(f);
        return List.of(fun.first, fun.params.size(), fun.names.size(), fun.type).get(what);
    }

    long start() {
        if (code == null) {
            return finding(NONE);
        }
        state = new State();
        past.clear();
        proofs.clear();
        int last = code.funs.size() - 1;
        state.frames.add(new Frame(last, code.funs.get(last).first, new int[code.funs.get(last).names.size()]));
        return code.places.size();
    }

    long step(int n) {
        if (n < 1 || n > 400) {
            return finding(BEYOND);
        }
        if (state == null) {
            return finding(NONE);
        }
        if (state.halt != 0) {
            return finding(HALTED);
        }
        int done = 0;
        while (done < n) {
            State ahead = state.copyOf();
            long[] proof = advance(code, state);
            if (proof == null) {
                break;
            }
            past.add(ahead);
            proofs.add(proof);
            if (past.size() > 30) {
                past.remove(0);
                proofs.remove(0);
            }
            done++;
        }
        return done;
    }

    long back(int n) {
        if (n < 1 || n > 30) {
            return finding(BEYOND);
        }
        if (state == null || past.isEmpty()) {
            return finding(NONE);
        }
        int gone = 0;
        while (gone < n && !past.isEmpty()) {
            state = past.remove(past.size() - 1);
            proofs.remove(proofs.size() - 1);
            gone++;
        }
        return gone;
    }

    long now(int what) {
        if (state == null) {
            return finding(NONE);
        }
        return switch (what) {
            case 0 -> state.halt;
            case 1 -> state.frames.isEmpty() ? 0 : state.frames.get(state.frames.size() - 1).place;
            case 2 -> state.frames.size();
            case 3 -> state.stack.size();
            case 4 -> state.printed.size();
            case 5 -> state.steps;
            case 6 -> Arrays.stream(state.heap).filter(o -> o != null).count();
            case 7 -> state.clears;
            case 8 -> past.size();
            default -> finding(BEYOND);
        };
    }

    long stack(int i, boolean type) {
        if (state == null) {
            return finding(NONE);
        }
        return i < 0 || i >= state.stack.size() ? finding(BEYOND) : state.stack.get(i)[type ? 1 : 0];
    }

    long variable(int f, int v) {
        if (state == null) {
            return finding(NONE);
        }
        boolean there = f >= 0 && f < state.frames.size() && v >= 0 && v < state.frames.get(f).variables.length;
        return there ? state.frames.get(f).variables[v] : finding(BEYOND);
    }

    long object(int o, int what) {
        if (state == null) {
            return finding(NONE);
        }
        if (o < 1 || o > 16) {
            return finding(BEYOND);
        }
        int[] is = state.heap[o];
        if (what == 0) {
            return is == null ? 0 : is[0];
        }
        if (is != null && is[0] == 2 && (what == 1 || what == 2)) {
            return is[what];
        }
        if (is != null && is[0] == 1 && what == 1) {
            return is.length - 1;
        }
        if (is != null && is[0] == 1 && what >= 10 && what < 10 + is.length - 1) {
            return is[what - 9];
        }
        return finding(BEYOND);
    }

    long printed(int i) {
        if (state == null) {
            return finding(NONE);
        }
        return i < 0 || i >= state.printed.size() ? finding(BEYOND) : state.printed.get(i);
    }

    long result() {
        return state == null || state.halt != 1 ? finding(NONE) : state.result;
    }

    long clear() {
        if (state == null) {
            return finding(NONE);
        }
        past.clear();
        proofs.clear();
        return state.clearHeap(code);
    }

    long proof(int i, int k) {
        if (state == null) {
            return finding(NONE);
        }
        boolean there = i >= 0 && i < proofs.size() && k >= 0 && k <= 3;
        return there ? proofs.get(proofs.size() - 1 - i)[k] : finding(BEYOND);
    }

    /** PROOFS of the next STEPS, as many as there are, for tests that want a sheet to be right. */
    List<long[]> ahead(int most) {
        List<long[]> all = new ArrayList<>();
        State s = state.copyOf();
        for (int i = 0; i < most; i++) {
            long[] proof = advance(code, s);
            if (proof == null) {
                break;
            }
            all.add(proof);
        }
        return all;
    }

    long proves(int s) {
        if (s < 0 || s > 3) {
            return finding(BEYOND);
        }
        if (bits[s] == 0) {
            return finding(MISSING);
        }
        if (bits[s] != 32) {
            return finding(KIND);
        }
        if (state == null) {
            return finding(NONE);
        }
        if (state.halt != 0) {
            return finding(HALTED);
        }
        int whole = numbers[s].length / 4;
        List<long[]> due = ahead(whole);
        for (int i = 0; i < whole * 4; i++) {
            if (i / 4 >= due.size() || due.get(i / 4)[i % 4] != numbers[s][i]) {
                return i;
            }
        }
        return numbers[s].length % 4 == 0 ? -1 : numbers[s].length;
    }

    long sheet(int s, int newBits, int n) {
        if (s < 0 || s > 3 || !List.of(0, 8, 16, 32).contains(newBits)) {
            return finding(BEYOND);
        }
        if (n < 0) {
            return finding(SIZE);
        }
        if (n > 40) {
            return finding(BEYOND);
        }
        bits[s] = newBits;
        numbers[s] = new int[newBits == 0 ? 0 : n];
        return numbers[s].length;
    }

    long put(int s, int i, int v) {
        if (s < 0 || s > 3) {
            return finding(BEYOND);
        }
        if (bits[s] == 0) {
            return finding(MISSING);
        }
        if (i < 0 || i >= numbers[s].length) {
            return finding(BEYOND);
        }
        numbers[s][i] = v << 32 - bits[s] >>> 32 - bits[s];
        return 0;
    }

    long copy(int s, int from, int t, int to, int n) {
        if (s < 0 || s > 3 || t < 0 || t > 3) {
            return finding(BEYOND);
        }
        if (bits[s] == 0 || bits[t] == 0) {
            return finding(MISSING);
        }
        if (bits[s] != bits[t]) {
            return finding(KIND);
        }
        boolean fits = (long) from + n <= numbers[s].length && (long) to + n <= numbers[t].length;
        if (from < 0 || to < 0 || n < 0 || !fits) {
            return finding(BEYOND);
        }
        int[] taken = Arrays.copyOfRange(numbers[s], from, from + n);
        for (int i = 0; i < n; i++) {
            numbers[t][to + i] = taken[i];
        }
        return n;
    }

    long found(int k) {
        return k < 1 || k > 7 ? finding(BEYOND) : counts[k];
    }

    long all(int what) {
        return switch (what) {
            case 0 -> tape.length();
            case 1 -> code == null ? 0 : code.places.size();
            case 2 -> code == null ? 0 : code.funs.size();
            case 3 -> state == null ? 0 : 1;
            default -> finding(BEYOND);
        };
    }
}
