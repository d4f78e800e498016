import java.util.Random;

/** Programs by chance, whole and damaged, cut anywhere: the class must answer as the model does. */
public final class ModelTest {
    private static final int PROGRAMS = Integer.getInteger("programs", 4000);
    private static final String DAMAGE = "()  ab1-+nil0fg?!\u00e9\n";
    private static final String[] ATOMS = {"0", "1", "2", "-1", "nil", "999999999", "7"};
    private static final String[] TWO = {"+", "-", "*", "<", "=", "eq?", "cons", "cons"};
    private static final String[] ONE = {"car", "cdr", "pair?", "null?", "not", "out", "out"};
    private static final String[] LOOPS = {
        "(letrec((f(lambda(n a)(if(< n 1)a X(f(- n 1)(cons X a))))))(f 70 nil))",
        "(letrec((f(lambda(n)(if(= n 0)X(+ 1(f(- n 1)))))))(f 50))",
        "(letrec((f(lambda(n)(if(= n 0)X(+ 1(f(- n 1)))))))X(f 61))",
        "(letrec((f(lambda(n a)(set! a X)(let((g(lambda()X)))(f(+ n 1)g)))))(f 0 X))",
        "(letrec((f(lambda(n)(let((b X)(c n))(set! b c)(set! c X)(begin X(f(+ n 1)))))))(f 0))",
        "(letrec((f(lambda(n)(letrec((g(lambda(m)(if(< m 3)(g(+ m 1))(f X)))))(g X)))))(f 1))",
        "(letrec((f(lambda(a b c d)(set! a b)(set! c d)(out(+ d 1))(f b c d(+ d 1)))))(f X X X 1))",
        "(let((a X)(b X))(letrec((f(lambda(n)(out n)(set! a n)(lambda()a b n)(f(+ n a)))))(f X)))",
        "(letrec((f(lambda(n)(out n)(if(f(+ n 1))X X))))(f 0))",
    };

    private static Random random;

    private static String pick(String[] from) {
        return from[random.nextInt(from.length)];
    }

    private static String letter(String scope) {
        return String.valueOf(scope.charAt(random.nextInt(scope.length())));
    }

    private static String atom(String scope) {
        return !scope.isEmpty() && random.nextInt(3) > 0 ? letter(scope) : pick(ATOMS);
    }

    private static String body(String scope, int depth) {
        StringBuilder s = new StringBuilder(expr(scope, depth));
        for (int i = random.nextInt(5) / 2; i > 0; i--) {
            s.append(' ').append(expr(scope, depth));
        }
        return s.toString();
    }

    private static String fresh(int n) {
        String s = "";
        while (s.length() < n) {
            String l = letter("abcdefg");
            s = s.contains(l) ? s : s + l;
        }
        return s;
    }

    private static String lambda(String scope, int depth, int n) {
        String v = fresh(n);
        return "(lambda (" + v.replaceAll("(.)", "$1 ") + ")" + body(scope + v, depth - 1) + ")";
    }

    private static String let(String scope, int depth) {
        String v = fresh(1 + random.nextInt(3));
        StringBuilder s = new StringBuilder("(let (");
        for (int i = 0; i < v.length(); i++) {
            s.append("(").append(v.charAt(i)).append(' ');
            s.append(random.nextInt(3) == 0 ? lambda(scope, depth, random.nextInt(3)) : expr(scope, depth - 1)).append(")");
        }
        return s + ")" + body(scope + v, depth - 1) + ")";
    }

    private static String expr(String scope, int depth) {
        if (depth <= 0) {
            return atom(scope);
        }
        int d = depth - 1;
        switch (random.nextInt(12)) {
            case 0: return "(" + pick(ONE) + " " + expr(scope, d) + ")";
            case 1: case 2: return "(" + pick(TWO) + " " + expr(scope, d) + " " + expr(scope, d) + ")";
            case 3: return "(if " + expr(scope, d) + " " + expr(scope, d) + " " + expr(scope, d) + ")";
            case 4: case 5: return let(scope, depth);
            case 6: {
                String v = fresh(1);
                return "(letrec ((" + v + " " + lambda(scope + v, depth, random.nextInt(3)) + "))" + body(scope + v, d) + ")";
            }
            case 7: return "(begin " + body(scope, d) + ")";
            case 8: return scope.isEmpty() ? atom(scope) : "(set! " + letter(scope) + " " + expr(scope, d) + ")";
            case 9: {
                int n = random.nextInt(3);
                StringBuilder s = new StringBuilder("(" + lambda(scope, depth, n));
                for (int i = 0; i < n; i++) {
                    s.append(' ').append(expr(scope, d));
                }
                return s + ")";
            }
            case 10: case 11: {
                if (scope.isEmpty()) {
                    return lambda(scope, depth, random.nextInt(2));
                }
                StringBuilder s = new StringBuilder("(" + letter(scope));
                for (int i = random.nextInt(3); i > 0; i--) {
                    s.append(' ').append(expr(scope, d));
                }
                return s + ")";
            }
            default: return atom(scope);
        }
    }

    private static String program() {
        String s;
        do {
            if (random.nextInt(3) == 0) {
                s = pick(LOOPS);
                while (s.contains("X")) {
                    String x = random.nextInt(2) == 0 ? pick(ATOMS) : expr(random.nextInt(4) > 0 ? "" : "f", random.nextInt(3));
                    s = s.replaceFirst("X", " " + x + " ");
                }
            } else {
                s = body("", 1 + random.nextInt(5));
            }
        } while (s.length() > 250);
        return s;
    }

    private static String damaged(String s) {
        StringBuilder b = new StringBuilder(s);
        for (int i = 1 + random.nextInt(2); i > 0; i--) {
            int at = random.nextInt(b.length() + 1);
            char c = DAMAGE.charAt(random.nextInt(DAMAGE.length()));
            switch (random.nextInt(4)) {
                case 0:
                    b.insert(at, c);
                    break;
                case 1:
                    b.setLength(at);
                    break;
                case 2:
                    b.delete(at, Math.min(b.length(), at + 1 + random.nextInt(3)));
                    break;
                default:
                    b.replace(at, Math.min(b.length(), at + 1), String.valueOf(c));
                    break;
            }
        }
        b.setLength(Math.min(b.length(), 250));
        return b.toString();
    }

    private static void compareState(String what, ListDesk d, Model m) {
        Check.due(what + ": status", d.status(), m.status);
        Check.due(what + ": place", d.place(), m.place);
        Check.looks(what, d, m.begun, m.objects, m.waiting, m.put.size());
    }

    private static void compareEnd(String what, ListDesk d, Model m) {
        int n = m.put.size();
        int oldest = Math.max(0, n - 200);
        for (int i = 0; i < 20 && oldest + i < n; i++) {
            Check.due(what + ": out", d.out(n - 1 - i), m.put.get(n - 1 - i));
            Check.due(what + ": out", d.out(oldest + i), m.put.get(oldest + i));
        }
        Check.throwing(what + ": out " + n, () -> d.out(n), Check.IOOBE);
        Check.throwing(what + ": out below", () -> d.out(oldest - 1), Check.IOOBE);
        for (int way = 1; way < 20 && m.status == 1; way++) {
            Object part = m.part(way);
            Check.due(what + ": kind " + way, d.kind(way), Model.kindOf(part));
            Check.due(what + ": number " + way, d.number(way), part instanceof Integer ? (Integer) part : 0);
        }
    }

    private static final int[] ended = new int[6];

    /** At most 33 calls to load, 7 for the state, 12 times 8 to run, 80 at the end: 216 in all. */
    private static void compare(ListDesk d, String text, int mostFuel) {
        Model m;
        Check.feed(d, text);
        try {
            m = new Model(text);
        } catch (Model.Wrong e) {
            ended[0]++;
            Check.due("load " + text, Check.load(d), Check.IAE);
            Check.due("place of " + text, d.place(), e.at);
            return;
        }
        Check.due("load " + text, Check.load(d), 0);
        m.walk(0);
        compareState(text, d, m);
        long spent = 0;
        for (int i = 0; i < 12 && d.status() == 2; i++) {
            int fuel = 1 + random.nextInt(mostFuel);
            spent += fuel;
            m.walk(spent);
            Check.due("run " + text, d.run(fuel), m.status);
            compareState(text + " with " + spent, d, m);
        }
        compareEnd(text + " with " + spent, d, m);
        ended[m.status]++;
    }

    private static void compareAll() {
        random = new Random(Long.getLong("seed", 1));
        for (int i = 0; i < PROGRAMS; i++) {
            String text = program();
            // Two programs are what an object's 512 calls are enough for.
            ListDesk d = new ListDesk();
            compare(d, text, i % 2 == 0 ? 2000 : 1 + random.nextInt(30));
            compare(d, damaged(text), 2000);
        }
        StringBuilder s = new StringBuilder("wrong, through, cut, status 3, 4, 5:");
        for (int n : ended) {
            s.append(' ').append(n);
        }
        System.out.println(s);
    }

    public static void main(String[] args) throws InterruptedException {
        Check.deep(ModelTest::compareAll);
        Check.end("ModelTest");
    }
}
