/** Which texts are right, and where the others are wrong. */
public final class TextsTest {
    private static final ListDesk DESK = new ListDesk();

    private static void wrong(int place, String text) {
        Check.wrongAt(DESK, text, place);
    }

    private static void right(String text) {
        Check.right(DESK, text);
    }

    private static void numbers() {
        right("0");
        right("-0");
        right("999999999");
        right("-999999999");
        right("000000001");
        right("(+(car(cons 1 2))3)4(not 1)5");
        wrong(9, "1234567890");
        wrong(10, "-1234567890");
        wrong(9, "0000000001");
        wrong(2, "12a");
        wrong(2, "12-");
        wrong(3, "-12+3");
        wrong(0, "-");
        wrong(0, "- 1");
        wrong(0, "-a");
        wrong(0, "--1");
        wrong(0, "+1");
        wrong(1, "1\n");
        wrong(1, "(1)");
        wrong(1, "(-1 2)");
        wrong(1, "(12a 2)");
    }

    private static void blanks() {
        right("  1  ");
        right("( + 1 2 )");
        right("( ( lambda ( ) nil ) )");
        wrong(3, "   ");
        wrong(1, " \t1");
        wrong(0, "\n1");
        wrong(1, "(+1 2)");
        wrong(1, "(eq?1 2)");
        wrong(12, "(lambda (x) xx)");
        wrong(12, "(lambda (x) x1)");
    }

    private static void words() {
        wrong(0, "foo");
        wrong(0, "nilx");
        wrong(0, "NIL");
        wrong(0, "car");
        wrong(0, "lambda");
        wrong(1, "(foo)");
        wrong(1, "(lambd");
        wrong(1, "(Lambda () 1)");
        wrong(1, "(nil)");
        wrong(1, "()");
        wrong(5, "(not car)");
        wrong(0, ")");
        wrong(2, "1 )");
        wrong(0, "\u00ff");
        wrong(0, "\u0000");
    }

    private static void missing() {
        for (String text : new String[] {"", "(", "(lambda", "(lambda(", "(lambda(a", "(lambda(a)", "(lambda(a)a", "(if", "(if 1",
            "(if 1 2", "(if 1 2 3", "(let", "(let(", "(let((", "(let((a", "(let((a 1", "(let((a 1)", "(let((a 1))", "(let((a 1))a",
            "(letrec", "(letrec(", "(letrec((", "(letrec((f", "(letrec((f(", "(letrec((f(lambda()1)", "(letrec((f(lambda()1))",
            "(letrec((f(lambda()1)))", "(lambda(a)(set!", "(lambda(a)(set! a", "(lambda(a)(set! a 1", "(begin", "(begin 1", "(+", "(+ 1",
            "(+ 1 2", "(not", "(not 1", "((lambda()1)", "((lambda()1) 2"}) {
            wrong(text.length(), text);
            wrong(text.length() + 2, text + "  ");
        }
    }

    private static void lambdas() {
        right("(lambda()1)");
        right("(lambda(a b c d)a b c d)");
        wrong(16, "(lambda(a b c d e)1)");
        wrong(16, "(lambda(a b c d a)1)");
        wrong(16, "(lambda(a b c d 12345678901)1)");
        wrong(10, "(lambda(a a)1)");
        wrong(8, "(lambda(ab)1)");
        wrong(8, "(lambda(nil)1)");
        wrong(8, "(lambda(5)1)");
        wrong(8, "(lambda((a))1)");
        wrong(8, "(lambda a 1)");
        wrong(9, "(lambda())");
        wrong(7, "(lambda)");
        wrong(11, "(lambda(a) b)");
        wrong(13, "(lambda(a) a)a");
    }

    private static void lets() {
        right("(let((a 1)(b 2)(c 3)(d 4))(+ a(+ b(+ c d))))");
        wrong(25, "(let((a 1)(b 2)(c 3)(d 4)(e 5))1)");
        wrong(5, "(let()1)");
        wrong(5, "(let(a)1)");
        wrong(4, "(let)");
        wrong(5, "(let a 1)");
        wrong(7, "(let((a))1)");
        wrong(10, "(let((a 1 2))1)");
        wrong(11, "(let((a 1)(a 2))1)");
        wrong(13, "(let((a 1)(b a))1)");
        wrong(11, "(let((a 1)))");
        right("(let((a 1))(let((a a)(b a))(set! b a)))");
        wrong(11, "(let((a 1))b)");
        wrong(13, "(let((a 1))a)a");
        right("(let((a(let((b 1)(c 2))b))(b(let((a 1))a)))(+ a b))");
    }

    private static void letrecs() {
        right("(letrec((f(lambda(n)(f n))))f)");
        right("(letrec((f ( lambda()f)))1 2)");
        wrong(9, "(letrec((f5))f)");
        wrong(11, "(letrec((f 5))f)");
        wrong(11, "(letrec((f f))f)");
        wrong(11, "(letrec((f nil))f)");
        wrong(11, "(letrec((f (car f)))f)");
        wrong(11, "(letrec((f ((lambda()1))))f)");
        wrong(11, "(letrec((f (let((a 1))(lambda()a))))f)");
        // It is looked at when it is read, so what is wrong inside it is told first.
        wrong(16, "(letrec((f (car x)))f)");
        wrong(18, "(letrec((f (+ f 1 2)))f)");
        wrong(22, "(letrec((f(lambda()1))(g(lambda()1)))1)");
        wrong(21, "(letrec((f(lambda()1)1))1)");
        wrong(8, "(letrec()1)");
        wrong(8, "(letrec(f)1)");
        wrong(9, "(letrec((5(lambda()1)))1)");
        wrong(23, "(letrec((f(lambda()1))))");
        wrong(25, "(letrec((f(lambda()1)))1)f");
    }

    private static void otherLists() {
        wrong(3, "(if)");
        wrong(7, "(if 1 2)");
        wrong(10, "(if 1 2 3 4)");
        wrong(6, "(set! a 1)");
        wrong(6, "(set! 5 1)");
        wrong(6, "(set! (car 1) 1)");
        wrong(16, "(lambda(a)(set! ab 1))");
        wrong(17, "(lambda(a)(set! a))");
        wrong(20, "(lambda(a)(set! a 1 2))");
        wrong(6, "(begin)");
        for (String two : "+ - * < = eq? cons".split(" ")) {
            right("(" + two + " 1 2)");
            wrong(two.length() + 1, "(" + two + ")");
            wrong(two.length() + 3, "(" + two + " 1)");
            wrong(two.length() + 6, "(" + two + " 1 2 3)");
            wrong(0, two);
        }
        for (String one : "car cdr pair? null? not out".split(" ")) {
            right("(" + one + " 1)");
            wrong(one.length() + 1, "(" + one + ")");
            wrong(one.length() + 4, "(" + one + " 1 2)");
            wrong(0, one);
        }
    }

    private static void calls() {
        right("(lambda(f)(f))");
        right("(lambda(f)(f 1 2 3 4))");
        wrong(21, "(lambda(f)(f 1 2 3 4 5))");
        wrong(11, "(lambda(f)(g))");
        right("((+ 1 2) 3)");
        right("(((lambda()(lambda()1))))");
    }

    private static void depth() {
        right("(not ".repeat(20) + "1" + ")".repeat(20));
        wrong(100, "(not ".repeat(20) + "(not 1" + ")".repeat(21));
        wrong(20, "(".repeat(21) + "1");
        wrong(20, "(".repeat(20));
        // The brackets round variables are no lists: they are no expressions.
        right("(not ".repeat(19) + "(lambda(a)a)" + ")".repeat(19));
        right("(not ".repeat(19) + "(let((a 1))a)" + ")".repeat(19));
        wrong(102, "(not ".repeat(19) + "(let((a(not 1)))a)" + ")".repeat(19));
        right("(not ".repeat(20) + "1" + ")".repeat(20) + "(not ".repeat(20) + "1" + ")".repeat(20));
    }

    public static void main(String[] args) {
        numbers();
        blanks();
        words();
        missing();
        lambdas();
        lets();
        letrecs();
        otherLists();
        calls();
        depth();
        Check.end("TextsTest");
    }
}
