/** The document's sentences on values, one part for each: inside and outside of what they bound. */
public final class ValuesTest {
    private static final String MOST = "(+ 999999999(+ 999999999 147483649))";
    private static final String LEAST = "(- -999999999(+ 999999999 147483650))";

    /* One of each kind, and two that differ where two of a kind can; p to g stand in WITH. */
    private static final String[] ALL = {"0", "1", "-1", "nil", "p", "q", "f", "g"};
    private static final String WITH = "(let((p(cons 1 2))(q(cons 1 2))(f(lambda()1))(g(lambda()1)))";

    private static boolean isInt(String x) {
        return x.matches("-?[0-9]+");
    }

    private static boolean isPair(String x) {
        return x.equals("p") || x.equals("q");
    }

    private static boolean isFunction(String x) {
        return x.equals("f") || x.equals("g");
    }

    private static void value(String expression, int want) {
        Check.value(WITH + expression + ")", want);
    }

    private static void cannot(String expression) {
        Check.stops(WITH + expression + ")", 3, WITH.length());
    }

    private static void wrapAround() {
        Check.sentence("+ - * as ints");
        Check.value(MOST, Integer.MAX_VALUE);
        Check.value("(+ 1" + MOST + ")", Integer.MIN_VALUE);
        Check.value("(+ " + MOST + MOST + ")", -2);
        Check.value(LEAST, Integer.MIN_VALUE);
        Check.value("(- " + LEAST + " 1)", Integer.MAX_VALUE);
        Check.value("(- 0" + LEAST + ")", Integer.MIN_VALUE);
        Check.value("(- -1" + LEAST + ")", Integer.MAX_VALUE);
        Check.value("(* 65536 32767)", 2147418112);
        Check.value("(* 65536 32768)", Integer.MIN_VALUE);
        Check.value("(* 65536 65536)", 0);
        Check.value("(* 46340 46340)", 2147395600);
        Check.value("(* 46341 46341)", -2147479015);
        Check.value("(* -1" + LEAST + ")", Integer.MIN_VALUE);
        Check.value("(* 999999999 999999999)", 999999999 * 999999999);
        Check.value("(- 3 5)", -2);
        Check.value("(- -3 -5)", 2);
        Check.value("(* -3 5)", -15);
        Check.value("(+ -3 5)", 2);
        Check.puts("(out" + MOST + ")(out" + LEAST + ")", Integer.MAX_VALUE, Integer.MIN_VALUE);
    }

    private static void compared() {
        Check.sentence("< = of ints 1 or 0");
        String[] ints = {LEAST, "-1", "0", "1", MOST};
        for (int i = 0; i < 5; i++) {
            for (int j = 0; j < 5; j++) {
                Check.value("(< " + ints[i] + " " + ints[j] + ")", i < j ? 1 : 0);
                Check.value("(= " + ints[i] + " " + ints[j] + ")", i == j ? 1 : 0);
            }
        }
    }

    private static void intsOnly() {
        Check.sentence("3 a primitive .. can't have its values: + - * < = have ints");
        for (String two : "+ - * < =".split(" ")) {
            for (String x : ALL) {
                for (String y : ALL) {
                    String text = "(" + two + " " + x + " " + y + ")";
                    if (isInt(x) && isInt(y)) {
                        Check.ran(WITH + text + ")", 1);
                    } else {
                        cannot(text);
                    }
                }
            }
        }
    }

    private static void same() {
        Check.sentence("eq? whether both are the same int, both nil, or the same pair or function");
        for (String x : ALL) {
            for (String y : ALL) {
                value("(eq? " + x + " " + y + ")", x.equals(y) ? 1 : 0);
            }
        }
        value("(eq?(car(cons p 1))p)", 1);
        value("(eq?(cons p q)(cons p q))", 0);
        value("(eq?((lambda(x)x)f)f)", 1);
        Check.value("(let((m(lambda()(lambda()1))))(eq?(m)(m)))", 0);
        Check.value("(eq? " + MOST + MOST + ")", 1);
        Check.value("(eq? " + MOST + LEAST + ")", 0);
    }

    private static void pairs() {
        Check.sentence("cons a new pair, car, cdr of one");
        for (String x : ALL) {
            for (String y : ALL) {
                value("(let((r(cons " + x + " " + y + ")))(+(eq?(car r)" + x + ")(+(eq?(cdr r)" + y + ")(pair? r))))", 3);
            }
            if (!isPair(x)) {
                cannot("(car " + x + ")");
                cannot("(cdr " + x + ")");
            }
        }
        value("(car p)", 1);
        value("(cdr p)", 2);
    }

    private static void asked() {
        Check.sentence("pair?, null? 1 or 0");
        for (String x : ALL) {
            value("(pair? " + x + ")", isPair(x) ? 1 : 0);
            value("(null? " + x + ")", x.equals("nil") ? 1 : 0);
        }
        Check.sentence("not: 1 for the int 0, 0 for all else");
        for (String x : ALL) {
            value("(not " + x + ")", x.equals("0") ? 1 : 0);
        }
        Check.value("(not(- 5 5))", 1);
        Check.value("(not(* 65536 65536))", 1);
        Check.value("(not " + LEAST + ")", 0);
    }

    private static void putOut() {
        Check.sentence("out: an int is put out, its value is nil");
        for (String x : ALL) {
            if (isInt(x)) {
                Check.puts("(out " + x + ")", Integer.parseInt(x));
                Check.kind("(out " + x + ")", 1);
            } else {
                cannot("(out " + x + ")");
            }
        }
    }

    private static void chosen() {
        Check.sentence("if: the second of its expressions unless the first one's value is the int 0, then the third");
        for (String x : ALL) {
            value("(if " + x + " 5 6)", x.equals("0") ? 6 : 5);
        }
        Check.puts("(if 0(out 1)(out 2))", 2);
        Check.puts("(if 1(out 1)(out 2))", 1);
        Check.value("(if " + LEAST + " 5 6)", 5);
        Check.value("(if(* 65536 65536)5 6)", 6);
    }

    private static void changed() {
        Check.sentence("set!: the variable becomes the value, which is its value");
        for (String x : ALL) {
            value("(let((a 5))(eq?(set! a " + x + ")" + x + "))", 1);
            value("(let((a 5))(set! a " + x + ")(eq? a " + x + "))", 1);
        }
        Check.value("(let((a 5)(b 6))(set! a 7)b)", 6);
        Check.value("(let((a 5))(let((a 6))(set! a 7))a)", 5);
        Check.value("(let((a 5))(let((b 6))(set! a 7))a)", 7);
        Check.value("(let((a 5))(set! a(+ a 1))(set! a(+ a 1))a)", 7);
        Check.value("((lambda(a b c d)(set! d 9)(+ a(+ b(+ c d))))1 2 3 4)", 15);
        Check.sentence("one that is changed later by set! is so for all");
        Check.value("(let((a 1))(let((f(lambda()a)))(set! a 2)(f)))", 2);
        Check.value("(let((a 1))(let((f(lambda()(set! a 2))))(f)a))", 2);
        Check.value("(let((a 1))(let((f(lambda()(set! a(+ a 1))))(g(lambda()a)))(f)(f)(g)))", 3);
        Check.value("((lambda(a)(let((f(lambda()(lambda()a))))(set! a 4)((f))))1)", 4);
        Check.value("(letrec((f(lambda()1)))(let((g(lambda()(f))))(set! f(lambda()2))(g)))", 2);
        Check.value("(let((m(lambda(a)(lambda()(set! a(+ a 1))))))(let((f(m 0))(g(m 10)))(f)(f)(+(f)(g))))", 14);
    }

    private static void closures() {
        Check.sentence("lambda: a new function with the variables around as they are");
        Check.value("(let((a 1))(let((f(lambda()a)))(let((a 2))(f))))", 1);
        Check.value("(((lambda(a)(lambda(b)(- a b)))9)2)", 7);
        Check.value("((((lambda(a)(lambda(b)(lambda(c)(- a(- b c)))))1)2)4)", 3);
        Check.value("(let((m(lambda(a)(lambda()a))))(let((f(m 1))(g(m 2)))(- (f)(g))))", -1);
        Check.sentence("let: its expressions in order, then all variables at once");
        Check.value("(let((a 1)(b 2))(let((a b)(b a))(- a b)))", 1);
        Check.puts("(let((a(out 1))(b(out 2))(c(out 3))(d(out 4)))(out 5))", 1, 2, 3, 4, 5);
        Check.value("(let((a 1))(let((a 2)(b(lambda()a)))(b)))", 1);
        Check.sentence("letrec: the variable first, then its function");
        Check.value("(let((f 5))(letrec((f(lambda()f)))(eq?(f)f)))", 1);
    }

    private static void takenAlong() {
        Check.sentence("lambda: a new function with the variables around as they are (many of them, each in its place)");
        String four = "(let((a 1)(b 20)(c 300)(d 4000))";
        Check.value(four + "((lambda()(+ d(+ c(+ b a))))))", 4321);
        Check.value(four + "((lambda()(+(+ a a)(+(+ b a)(+ c a))))))", 324);
        Check.value(four + "(((lambda()b(lambda()(- d(- c(- b a))))))))", 4000 - (300 - (20 - 1)));
        Check.value(four + "(((lambda(e f)(lambda(g h)(- a(- b(- c(- d(- e(- f(- g h)))))))))5 6)7 8))",
                1 - (20 - (300 - (4000 - (5 - (6 - (7 - 8)))))));
        Check.value(four + "((lambda(a)((lambda(b)(- a(- b(- c d))))7))9))", 9 - (7 - (300 - 4000)));
        Check.value(four + "(let((a b)(b c)(c d)(d a))((lambda()(- a(- b(- c d)))))))", 20 - (300 - (4000 - 1)));
        Check.value(four + "((lambda()(set! c 5)a))(- c d))", -3995);
    }

    /** An expression of every kind whose value is 7. */
    private static final String[] SEVENS = {"7", "(+ 3 4)", "(car(cons 7 8))", "(if 1 7 8)", "(if 0 8 7)", "(begin 5 6 7)", "(let((x 7))x)",
        "(let((x 1)(y 2)(z 4))x(+ x(+ y z)))", "(letrec((x(lambda()7)))x(x))", "(let((x 5))(set! x 7))", "((lambda()6 7))",
        "((lambda(x y)y x)7 8)", "((lambda(x)((lambda(y)y)x))7)", "(begin(out 5)7)", "(begin(lambda(x)x)7)"};

    private static void anywhere() {
        Check.sentence("An expression's value is the same wherever it stands");
        for (String x : SEVENS) {
            Check.value(x, 7);
            Check.value("1 nil " + x, 7);
            for (String y : SEVENS) {
                String seven = x + " " + y;
                Check.value("(let((a 1)(b 2))(- a(* " + seven + ")))", -48);
                Check.value("(- 9(- " + seven + "))", 9);
                Check.value("((lambda(a b c)(- a(+ b c)))9 " + seven + ")", -5);
                Check.value("(let((a 9)(b " + x + ")(c " + y + "))(- a(+ b c)))", -5);
                Check.value("(let((a " + x + "))(let((b " + y + ")(c 1))(- a(- b c))))", 1);
                Check.value("((lambda(n)" + seven + "(let((b 3)(c " + y + "))(- n(- b c))))5)", 9);
                Check.value("(- 9(if " + seven + " 5))", 2);
                Check.value("(let((n 1))(+ n(letrec((f(lambda()" + seven + ")))(+ n(- (f)" + y + ")))))", 2);
            }
        }
    }

    private static void inOrder() {
        Check.sentence("A list is its expressions' values from the left");
        for (String two : "eq? cons".split(" ")) {
            Check.puts("(" + two + "(out 1)(out 2))", 1, 2);
        }
        for (String two : "+ - * < =".split(" ")) {
            Check.puts("(" + two + "(begin(out 1)5)(begin(out 2)5))", 1, 2);
        }
        Check.sentence("A call: the function's expression first, then its arguments in order; then its body with these");
        Check.puts("((begin(out 1)(lambda(a b c d)(out 6)))(out 2)(out 3)(out 4)(out 5))", 1, 2, 3, 4, 5, 6);
        Check.value("((lambda(a b c d)(- a(* 10(- b(* 10(- c(* 10 d)))))))1 2 3 4)", 1 - 10 * (2 - 10 * (3 - 10 * 4)));
        Check.sentence("begin, bodies, the program: one after the other, the last one's value");
        Check.puts("(out 1)(begin(out 2)(out 3))((lambda()(out 4)(out 5)))(let((a 1))(out 6)(out 7))(out 8)", 1, 2, 3, 4, 5, 6, 7, 8);
        Check.value("(begin 1 2 3)4(begin 5 6)", 6);
    }

    private static void asMany() {
        Check.sentence("its number of variables must be as many");
        String[] heads = {"(lambda()5)", "(lambda(a)5)", "(lambda(a b)5)", "(lambda(a b c)5)", "(lambda(a b c d)5)"};
        String[] arguments = {"", "1", "1 2", "1 2 3", "1 2 3 4"};
        for (int i = 0; i <= 4; i++) {
            for (int j = 0; j <= 4; j++) {
                String text = "(" + heads[i] + arguments[j] + ")";
                if (i == j) {
                    Check.value("7" + text, 5);
                } else {
                    Check.stops("7" + text, 3, 1);
                }
            }
        }
        Check.sentence("3 a .. call can't have its values: it has a function");
        for (String x : ALL) {
            for (String more : arguments) {
                String text = "(let((x " + x + "))(x " + more + "))";
                if (isFunction(x) && more.isEmpty()) {
                    value(text, 1);
                } else {
                    Check.stops(WITH + text + ")", 3, WITH.length() + text.indexOf("(x " + more + ")", 6));
                }
            }
        }
    }

    public static void main(String[] args) {
        wrapAround();
        compared();
        intsOnly();
        same();
        pairs();
        asked();
        putOut();
        chosen();
        changed();
        closures();
        takenAlong();
        anywhere();
        inOrder();
        asMany();
        Check.end("ValuesTest");
    }
}
