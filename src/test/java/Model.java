import java.util.ArrayList;
import java.util.HashMap;
import java.util.HashSet;
import java.util.List;
import java.util.Map;
import java.util.Set;

/**
 * The document once more, in the plainest way: a tree that is walked by Java's own recursion, with
 * variables in maps. A run with so much fuel is always walked from the beginning.
 */
final class Model {
    static final class Wrong extends Exception {
        private static final long serialVersionUID = 1L;
        final int at;

        Wrong(int at) {
            this.at = at;
        }
    }

    private static final class Stop extends RuntimeException {
        private static final long serialVersionUID = 1L;

        Stop() {
            super(null, null, false, false);
        }
    }

    private static final class Variable {
        final char letter;
        boolean counted;

        Variable(char letter) {
            this.letter = letter;
        }
    }

    private static final class Cell {
        Object value;
    }

    private static final class Env {
        final Env outer;
        final Map<Variable, Cell> cells = new HashMap<>();

        Env(Env outer) {
            this.outer = outer;
        }

        Cell cell(Variable v) {
            for (Env e = this; e != null; e = e.outer) {
                Cell c = e.cells.get(v);
                if (c != null) {
                    return c;
                }
            }
            throw new AssertionError("a variable without a cell");
        }
    }

    static final class Pair {
        final Object car;
        final Object cdr;

        Pair(Object car, Object cdr) {
            this.car = car;
            this.cdr = cdr;
        }
    }

    static final class Function {
        final Node lambda;
        final Env env;

        Function(Node lambda, Env env) {
            this.lambda = lambda;
            this.env = env;
        }
    }

    static final Object NIL = new Object();

    private static final class Node {
        final String what;
        final int at;
        int number;
        boolean atEnd;
        Variable variable;
        final List<Variable> variables = new ArrayList<>();
        final List<Node> parts = new ArrayList<>();
        final List<Node> body = new ArrayList<>();

        Node(String what, int at) {
            this.what = what;
            this.at = at;
        }
    }

    // Reading: words first, then what they mean.

    private static final Map<String, Integer> PRIMITIVES = new HashMap<>();

    static {
        for (String two : "+ - * < = eq? cons".split(" ")) {
            PRIMITIVES.put(two, 2);
        }
        for (String one : "car cdr pair? null? not out".split(" ")) {
            PRIMITIVES.put(one, 1);
        }
    }

    private final String text;
    private final List<String> words = new ArrayList<>();
    private final List<Integer> places = new ArrayList<>();
    private final List<Node> program = new ArrayList<>();
    private final List<Variable> scope = new ArrayList<>();
    private int next;

    Model(String text) throws Wrong {
        this.text = text;
        split();
        do {
            program.add(expression(0));
        } while (next < words.size());
        for (Node n : program) {
            markFunctionEnds(n);
        }
    }

    private void split() {
        int i = 0;
        while (i < text.length()) {
            char c = text.charAt(i);
            if (c == ' ') {
                i++;
                continue;
            }
            int end = i + 1;
            if (c != '(' && c != ')') {
                while (end < text.length() && " ()".indexOf(text.charAt(end)) < 0) {
                    end++;
                }
            }
            words.add(text.substring(i, end));
            places.add(i);
            i = end;
        }
    }

    private String word() {
        return next < words.size() ? words.get(next) : "";
    }

    private int at() {
        return next < words.size() ? places.get(next) : text.length();
    }

    private void need(boolean holds) throws Wrong {
        if (!holds) {
            throw new Wrong(at());
        }
    }

    private void skip(String wanted) throws Wrong {
        need(word().equals(wanted));
        next++;
    }

    private boolean isLetter() {
        return word().matches("[a-z]");
    }

    private Node expression(int depth) throws Wrong {
        String w = word();
        int at = at();
        if (w.equals("(")) {
            need(depth < 20);
            next++;
            Node n = list(at, depth + 1);
            skip(")");
            return n;
        }
        if (w.matches("(?s)-?[0-9].*")) {
            return number(w, at);
        }
        if (w.equals("nil")) {
            next++;
            return new Node("nil", at);
        }
        Node n = new Node("variable", at);
        n.variable = known();
        return n;
    }

    private Node number(String w, int at) throws Wrong {
        int from = w.startsWith("-") ? 1 : 0;
        int i = from;
        while (i < w.length() && w.charAt(i) >= '0' && w.charAt(i) <= '9') {
            if (i - from == 9) {
                throw new Wrong(at + i);
            }
            i++;
        }
        if (i < w.length()) {
            throw new Wrong(at + i);
        }
        next++;
        Node n = new Node("number", at);
        n.number = Integer.parseInt(w);
        return n;
    }

    private Variable known() throws Wrong {
        need(isLetter());
        char letter = word().charAt(0);
        for (int i = scope.size() - 1; i >= 0; i--) {
            if (scope.get(i).letter == letter) {
                next++;
                return scope.get(i);
            }
        }
        throw new Wrong(at());
    }

    private Variable fresh(Set<Character> seen) throws Wrong {
        need(isLetter() && seen.add(word().charAt(0)));
        Variable v = new Variable(word().charAt(0));
        next++;
        return v;
    }

    private Node list(int at, int depth) throws Wrong {
        String w = word();
        Node n = new Node(w, at);
        if (PRIMITIVES.containsKey(w)) {
            next++;
            for (int i = 0; i < PRIMITIVES.get(w); i++) {
                n.parts.add(expression(depth));
            }
            return n;
        }
        switch (w) {
            case "lambda": return lambda(n, depth);
            case "let": return let(n, depth);
            case "letrec": return letrec(n, depth);
            case "if":
                next++;
                for (int i = 0; i < 3; i++) {
                    n.parts.add(expression(depth));
                }
                return n;
            case "set!":
                next++;
                n.variable = known();
                n.variable.counted = true;
                n.parts.add(expression(depth));
                return n;
            case "begin":
                next++;
                body(n, depth);
                return n;
            default:
                return call(at, depth);
        }
    }

    private void body(Node n, int depth) throws Wrong {
        do {
            n.body.add(expression(depth));
        } while (!word().equals(")"));
    }

    private void bodyWith(Node n, int depth) throws Wrong {
        scope.addAll(n.variables);
        body(n, depth);
        for (int i = 0; i < n.variables.size(); i++) {
            scope.remove(scope.size() - 1);
        }
    }

    private Node lambda(Node n, int depth) throws Wrong {
        next++;
        skip("(");
        Set<Character> seen = new HashSet<>();
        while (!word().equals(")")) {
            need(n.variables.size() < 4);
            n.variables.add(fresh(seen));
        }
        next++;
        bodyWith(n, depth);
        return n;
    }

    private Node let(Node n, int depth) throws Wrong {
        next++;
        skip("(");
        Set<Character> seen = new HashSet<>();
        do {
            need(n.variables.size() < 4);
            skip("(");
            n.variables.add(fresh(seen));
            n.parts.add(expression(depth));
            skip(")");
        } while (!word().equals(")"));
        next++;
        bodyWith(n, depth);
        return n;
    }

    private Node letrec(Node n, int depth) throws Wrong {
        next++;
        skip("(");
        skip("(");
        Variable v = fresh(new HashSet<>());
        v.counted = true;
        n.variables.add(v);
        scope.add(v);
        int at = at();
        Node lambda = expression(depth);
        if (!lambda.what.equals("lambda")) {
            throw new Wrong(at);
        }
        scope.remove(scope.size() - 1);
        n.parts.add(lambda);
        skip(")");
        skip(")");
        bodyWith(n, depth);
        return n;
    }

    private Node call(int at, int depth) throws Wrong {
        need(word().equals("(") || isLetter());
        Node n = new Node("call", at);
        n.parts.add(expression(depth));
        while (!word().equals(")")) {
            need(n.parts.size() < 5);
            n.parts.add(expression(depth));
        }
        return n;
    }

    private static void markFunctionEnds(Node n) {
        if (n.what.equals("lambda")) {
            markEnd(n.body.get(n.body.size() - 1));
        }
        for (Node p : n.parts) {
            markFunctionEnds(p);
        }
        for (Node b : n.body) {
            markFunctionEnds(b);
        }
    }

    private static void markEnd(Node n) {
        switch (n.what) {
            case "call":
                n.atEnd = true;
                break;
            case "if":
                markEnd(n.parts.get(1));
                markEnd(n.parts.get(2));
                break;
            case "let":
            case "letrec":
            case "begin":
                markEnd(n.body.get(n.body.size() - 1));
                break;
            default:
                break;
        }
    }

    // Walking.

    int status = 2;
    int place = -1;
    int begun;
    int objects;
    int waiting;
    final List<Integer> put = new ArrayList<>();
    Object value;
    private long limit;

    void walk(long fuel) {
        status = 2;
        place = -1;
        begun = 0;
        objects = 0;
        waiting = 0;
        put.clear();
        limit = fuel;
        try {
            value = sequence(program, new Env(null));
            status = 1;
        } catch (Stop e) {
            value = null;
        }
    }

    private void stop(int newStatus, int at) {
        status = newStatus;
        place = at;
        throw new Stop();
    }

    private void object(int at) {
        if (objects == 2000) {
            stop(5, at);
        }
        objects++;
    }

    private Object sequence(List<Node> nodes, Env env) {
        Object last = null;
        for (Node n : nodes) {
            last = eval(n, env);
        }
        return last;
    }

    private Env bind(Env outer, List<Variable> variables, List<Object> values, int at) {
        Env env = new Env(outer);
        for (int i = 0; i < variables.size(); i++) {
            if (variables.get(i).counted) {
                object(at);
            }
            Cell c = new Cell();
            c.value = values.get(i);
            env.cells.put(variables.get(i), c);
        }
        return env;
    }

    private Object eval(Node n, Env env) {
        if (begun == limit) {
            throw new Stop();
        }
        begun++;
        switch (n.what) {
            case "number": return n.number;
            case "nil": return NIL;
            case "variable": return env.cell(n.variable).value;
            case "lambda":
                object(n.at);
                return new Function(n, env);
            case "if": {
                Object test = eval(n.parts.get(0), env);
                return eval(n.parts.get(test.equals(0) ? 2 : 1), env);
            }
            case "set!": {
                Object v = eval(n.parts.get(0), env);
                env.cell(n.variable).value = v;
                return v;
            }
            case "begin": return sequence(n.body, env);
            case "letrec": {
                List<Object> none = new ArrayList<>();
                none.add(null);
                Env inner = bind(env, n.variables, none, n.at);
                Object f = eval(n.parts.get(0), inner);
                inner.cell(n.variables.get(0)).value = f;
                return sequence(n.body, inner);
            }
            default: {
                List<Object> values = new ArrayList<>();
                for (Node p : n.parts) {
                    values.add(eval(p, env));
                }
                if (n.what.equals("let")) {
                    return sequence(n.body, bind(env, n.variables, values, n.at));
                }
                return n.what.equals("call") ? apply(n, values) : primitive(n, values);
            }
        }
    }

    private Object apply(Node n, List<Object> values) {
        Object f = values.remove(0);
        if (!(f instanceof Function) || ((Function) f).lambda.variables.size() != values.size()) {
            stop(3, n.at);
        }
        Function function = (Function) f;
        if (!n.atEnd) {
            if (waiting == 60) {
                stop(4, n.at);
            }
            waiting++;
        }
        Env env = bind(function.env, function.lambda.variables, values, n.at);
        Object result = sequence(function.lambda.body, env);
        if (!n.atEnd) {
            waiting--;
        }
        return result;
    }

    private Object primitive(Node n, List<Object> values) {
        Object a = values.get(0);
        Object b = values.size() > 1 ? values.get(1) : null;
        switch (n.what) {
            case "cons":
                object(n.at);
                return new Pair(a, b);
            case "eq?": return (a instanceof Integer ? a.equals(b) : a == b) ? 1 : 0;
            case "pair?": return a instanceof Pair ? 1 : 0;
            case "null?": return a == NIL ? 1 : 0;
            case "not": return a.equals(0) ? 1 : 0;
            case "car":
            case "cdr":
                if (!(a instanceof Pair)) {
                    stop(3, n.at);
                }
                return n.what.equals("car") ? ((Pair) a).car : ((Pair) a).cdr;
            case "out":
                if (!(a instanceof Integer)) {
                    stop(3, n.at);
                }
                put.add((Integer) a);
                return NIL;
            default:
                if (!(a instanceof Integer && b instanceof Integer)) {
                    stop(3, n.at);
                }
                return reckon(n.what, (Integer) a, (Integer) b);
        }
    }

    private static int reckon(String what, int a, int b) {
        switch (what) {
            case "+": return a + b;
            case "-": return a - b;
            case "*": return a * b;
            case "<": return a < b ? 1 : 0;
            default: return a == b ? 1 : 0;
        }
    }

    /** What stands at a way behind the end, or null. */
    Object part(int way) {
        Object v = value;
        String bits = Integer.toBinaryString(way);
        for (int i = 1; i < bits.length(); i++) {
            if (!(v instanceof Pair)) {
                return null;
            }
            v = bits.charAt(i) == '0' ? ((Pair) v).car : ((Pair) v).cdr;
        }
        return v;
    }

    static int kindOf(Object v) {
        return v == null ? -1 : v instanceof Integer ? 0 : v == NIL ? 1 : v instanceof Pair ? 2 : 3;
    }
}
