/** What the expressions of the language mean: values, their order, objects, calls that wait. */
public final class LanguageTest {
    private static void value(String text, int want) {
        ListDesk d = Check.ran(text, 1);
        Check.due("kind of " + text, d.kind(1), 0);
        Check.due("value of " + text, d.number(1), want);
    }

    private static void kind(String text, int want) {
        Check.due("kind of " + text, Check.ran(text, 1).kind(1), want);
    }

    private static void objects(String text, int want) {
        Check.due("objects of " + text, Check.ran(text, 1).look(1), want);
    }

    private static void puts(String text, int... want) {
        ListDesk d = Check.ran(text, 1);
        Check.due("put out by " + text, d.look(3), want.length);
        for (int k = 0; k < want.length && k < d.look(3); k++) {
            Check.due("out " + k + " of " + text, d.out(k), want[k]);
        }
    }

    private static void primitives() {
        value("(+ 2 3)", 5);
        value("(- 2 3)", -1);
        value("(* -2 3)", -6);
        value("(+ 999999999(+ 999999999 999999999))", 999999999 * 3);
        value("(- -999999999(* 2 999999999))", -999999999 * 3);
        value("(* 999999999 999999999)", 999999999 * 999999999);
        value("(< 1 2)", 1);
        value("(< 2 2)", 0);
        value("(< -3 2)", 1);
        value("(= 2 2)", 1);
        value("(= 2 -2)", 0);
        value("(eq? 5 5)", 1);
        value("(eq? 5 6)", 0);
        value("(eq? nil nil)", 1);
        value("(eq? 0 nil)", 0);
        value("(eq? (cons 1 2)(cons 1 2))", 0);
        value("(let((a(cons 1 2)))(eq? a a))", 1);
        value("(let((a(lambda()1)))(eq? a a))", 1);
        value("(eq?(lambda()1)(lambda()1))", 0);
        value("(let((a(cons 1 2))(b(lambda()1)))(eq? a b))", 0);
        value("(car(cons 1 2))", 1);
        value("(cdr(cons 1 2))", 2);
        value("(pair?(cons 1 2))", 1);
        value("(pair? nil)", 0);
        value("(null? nil)", 1);
        value("(null? 0)", 0);
        value("(not 0)", 1);
        value("(not 1)", 0);
        value("(not nil)", 0);
        value("(not(lambda()1))", 0);
        kind("nil", 1);
        kind("(cons 1 2)", 2);
        kind("(lambda()1)", 3);
    }

    private static void forms() {
        value("(if 0 1 2)", 2);
        value("(if -1 1 2)", 1);
        value("(if nil 1 2)", 1);
        puts("(if(out 1)(out 2)(out 3))", 1, 2);
        value("1 2 3", 3);
        value("(begin 1 2 3)", 3);
        value("(let((a 1))(set! a 5))", 5);
        value("(let((a 1))(set! a 5)a)", 5);
        value("(let((a 1)(b 2))(let((a b)(b a))(- a b)))", 1);
        value("((lambda(a b c d)(- a(- b(- c d))))1 2 3 4)", -2);
        value("((lambda()7))", 7);
        value("(letrec((f(lambda(n)(if n(* n(f(- n 1)))1))))(f 10))", 3628800);
        value("(let((a 1))(let((f(lambda()a)))(let((a 2))(f))))", 1);
        value("(let((a 1))(let((f(lambda()a)))(set! a 3)(f)))", 3);
        value("(let((c((lambda(n)(lambda()(set! n(+ n 1))))5)))(c)(c)(c))", 8);
        value("(let((m(lambda(n)(lambda()(set! n(+ n 1))))))(let((a(m 0))(b(m 10)))(a)(a)(+(a)(b))))", 14);
        value("(letrec((f(lambda()1)))(set! f(lambda()2))(f))", 2);
        kind("(((lambda(a)(lambda(b)(lambda(c)(- a(- b c)))))1)2)", 3);
        value("((((lambda(a)(lambda(b)(lambda(c)(- a(- b c)))))1)2)4)", 3);
        puts("((begin(out 1)(lambda(a b)(out 4)))(out 2)(out 3))", 1, 2, 3, 4);
        puts("(let((a(out 1))(b(out 2)))(out 3))", 1, 2, 3);
        puts("(cons(out 1)(cons(out 2)(out 3)))", 1, 2, 3);
    }

    private static void objectsMade() {
        objects("(let((a 1)(b 2))a)", 0);
        objects("(let((a 1)(b 2))(if 1 1(set! b 2)))", 1);
        objects("(let((a 1))(set! a 2))(let((a 1))a)", 1);
        objects("(let((a 1))(let((a 2))(set! a 3)))", 1);
        objects("(let((a 1))(let((a(set! a 2)))a))", 1);
        objects("((lambda(a b c)(set! a 1)(set! c 2))1 2 3)", 3);
        objects("(letrec((f(lambda()1)))1)", 2);
        objects("(letrec((f(lambda()1)))(set! f 2))", 2);
        objects("(letrec((f(lambda(n)(set! n(- n 1))(if n(f n)0))))(f 5))", 7);
        objects("(cons 1(cons 2(lambda()1)))", 3);
        ListDesk d = new ListDesk();
        Check.right(d, "(letrec((f(lambda()1)))f)");
        d.run(1);
        Check.looks("letrec's variable comes first", d, 1, 1, 0, 0);
        d.run(1);
        Check.looks("then its function", d, 2, 2, 0, 0);
    }

    /** A list of 1,990 pairs and letrec's two objects; then what the rest of the program makes. */
    private static void fullAt(int place, int waiting, String rest) {
        String before = "(letrec((f(lambda(n l)(if n(f(- n 1)(cons n l))nil))))(f 1990 nil)";
        ListDesk d = Check.ran(before + rest + ")", 5);
        Check.due("place of " + rest, d.place(), before.length() + place);
        Check.due("objects of " + rest, d.look(1), 2000);
        Check.due("waiting of " + rest, d.look(2), waiting);
    }

    private static void tooManyObjects() {
        String six = "(f 6 nil)";
        String seven = "(f 7 nil)";
        String eight = "(f 8 nil)";
        Check.ran("(letrec((f(lambda(n l)(if n(f(- n 1)(cons n l))nil))))(f 1998 nil))", 1);
        Check.ran("(letrec((f(lambda(n l)(if n(f(- n 1)(cons n l))nil))))(f 1999 nil))", 5);
        fullAt(9, 0, eight + "(cons 1 2)");
        fullAt(9, 0, eight + "(lambda()1)");
        fullAt(9, 0, eight + "(letrec((g(lambda()1)))g)");
        fullAt(19, 0, seven + "(letrec((g(lambda()1)))g)");
        fullAt(9, 0, eight + "(let((a 1)(b 2))(set! b a))");
        fullAt(9, 0, six + "(let((a 1)(b 2)(c 3))(set! a b)(set! b 1)(set! c 2))");
        fullAt(9, 1, seven + "((lambda(a b)(set! b 2))1 2)");
        fullAt(9, 1, six + "((lambda(a b)(set! a 1)(set! b 2))1 2)");
        fullAt(19, 1, six + "((lambda()((lambda(a)(set! a 1))1)))");
        fullAt(24, 2, six + "((lambda()(not ((lambda(a)(set! a 1))1))))");
    }

    private static void atTheEnd() {
        String loop = "(letrec((f(lambda(n)%s)))(f 300))";
        for (String body : new String[] {"(if n(f(- n 1))7)", "(begin n(if n(f(- n 1))7))", "n(let((a n))a(if a(f(- a 1))7))",
            "(if n(letrec((g(lambda()1)))(f(- n 1)))7)", "(if(not n)7(f(- n 1)))", "(if n((lambda(m)(f(- m 1)))n)7)"}) {
            value(String.format(loop, body), 7);
        }
        for (String body : new String[] {"(not(f n))", "(if(f n)1 2)", "(begin(f n)1)", "(let((a(f n)))a)", "(set! n(f n))",
            "(let((a 1))(f n)a)", "(f(f n))", "((f n))", "(begin(if 1(f n)2)3)", "(cons(let((a n))(f a))1)"}) {
            ListDesk d = Check.ran(String.format(loop, body), 4);
            Check.due("waiting in " + body, d.look(2), 60);
        }
        ListDesk d = new ListDesk();
        Check.right(d, "(if 1(let((a 1))(begin((lambda()2))))3)");
        d.run(7);
        Check.due("those of the program itself wait", d.look(2), 1);
        value("(letrec((f(lambda(n)(if n(not(f(- n 1)))0))))(f 59))", 1);
        Check.ran("(letrec((f(lambda(n)(if n(not(f(- n 1)))0))))(f 60))", 4);
    }

    public static void main(String[] args) {
        primitives();
        forms();
        objectsMade();
        tooManyObjects();
        atTheEnd();
        Check.end("LanguageTest");
    }
}
