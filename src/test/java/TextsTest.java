/**
 * The document's sentences on texts, one part for each: the last text inside its bound and the first
 * one outside. Every text has an object of its own, for an object is good for 512 calls.
 */
public final class TextsTest {
    private static final String[] WORDS = ("lambda if let letrec set! begin + - * < = eq? cons car cdr pair? null? not out").split(" ");

    private static void wrong(int place, String text) {
        Check.wrongAt(new ListDesk(), text, place);
    }

    private static void right(String text) {
        Check.right(new ListDesk(), text);
    }

    private static void length() {
        Check.sentence("TEXTS have at most 250 bytes");
        Check.value("(+ 1" + " ".repeat(243) + "12)", 13);
        wrong(249, "(+ 1" + " ".repeat(243) + "1))");
        wrong(249, "(+ 1" + " ".repeat(244) + "1a");
        wrong(250, "(+ 1" + " ".repeat(245) + "1");
        wrong(249, "(+ 1" + " ".repeat(244) + "1");
        ListDesk d = new ListDesk();
        Check.feed(d, "(+ 1" + " ".repeat(243) + "12)");
        Check.throwing("a 251st byte", () -> d.feed(0x29L, 1), Check.ISE);
        Check.due("the 250 are as they were", Check.load(d), 0);
        d.run(3);
        Check.due("and have their value", d.number(1), 13);
    }

    private static void program() {
        Check.sentence("a PROGRAM is one or more EXPRESSIONS");
        wrong(0, "");
        wrong(1, " ");
        wrong(250, " ".repeat(250));
        Check.value("7", 7);
        Check.value("7 8", 8);
        Check.value("7 ".repeat(124) + "9", 9);
        Check.due("all of them are begun", Check.ran("7 ".repeat(124) + "9", 1).look(0), 125);
        Check.value("(not 1)(not 0)", 1);
        wrong(2, "1 )");
        wrong(7, "(not 1))");
    }

    private static void blanks() {
        Check.sentence("Blanks may stand between words, numbers and brackets");
        for (String text : new String[] {"((lambda(a b)(- a b))9(+ 1 1))", "( ( lambda ( a b ) ( - a b ) ) 9 ( + 1 1 ) )",
            "(  (   lambda(    a     b) (-   a  b  ))  9  (  +  1   1  )  )"}) {
            Check.value(text, 7);
        }
        right("(let((a 1)(b nil))(set! a b))");
        right("( let ( ( a 1 ) ( b nil ) ) ( set! a b ) )");
        right("(letrec((f(lambda()1)))(f))");
        right("( letrec ( ( f ( lambda ( ) 1 ) ) ) ( f ) )");
        for (char c : new char[] {0, '\t', '\n', '\r', 31, '!', ',', 160}) {
            wrong(1, "1" + c + "2");
            wrong(0, c + "1");
            wrong(1, "(" + c + "not 1)");
            wrong(1, "(not" + c + "1)");
            wrong(7, "(not 1)" + c);
        }
    }

    private static void sideBySide() {
        Check.sentence("two words or numbers side by side have one between them");
        Check.value("(+ 1 2)", 3);
        wrong(5, "(+ 12)");
        wrong(1, "(+1 2)");
        Check.value("1 1", 1);
        Check.value("11", 11);
        Check.value("1 -1", -1);
        wrong(1, "1-1");
        right("nil nil");
        wrong(0, "nilnil");
        right("nil 1");
        wrong(0, "nil1");
        right("1 nil");
        wrong(1, "1nil");
        right("(not nil)");
        wrong(1, "(notnil)");
        right("(lambda(a b)a b)");
        wrong(8, "(lambda(ab)1)");
        wrong(12, "(lambda(a b)ab)");
        wrong(12, "(lambda(a b)a1)");
        wrong(12, "(lambda(a b)a-1)");
        wrong(11, "(lambda(a)(a1))");
        wrong(11, "(lambda(a)(set!a 1))");
        right("nil(not 1)nil(not 2)3(not 4)");
    }

    private static void numbers() {
        Check.sentence("a NUMBER (one to nine digits, perhaps - ahead)");
        int n = 0;
        for (int digits = 1; digits <= 9; digits++) {
            n = n * 10 + digits;
            Check.value(String.valueOf(n), n);
            Check.value("-" + n, -n);
            Check.value("0".repeat(digits), 0);
        }
        Check.value("999999999", 999999999);
        Check.value("-999999999", -999999999);
        Check.value("-0", 0);
        Check.value("012", 12);
        wrong(0, "-");
        wrong(0, "- 1");
        wrong(0, "--1");
        wrong(0, "+1");
        wrong(5, "(not -)");
        wrong(5, "(not - 1)");
        wrong(0, "/");
        wrong(0, ":");
        wrong(0, "-/");
        wrong(0, "-:");
    }

    private static void tenthDigit() {
        Check.sentence("a number of more than nine digits at the tenth");
        right("123456789");
        right("-123456789");
        wrong(9, "1234567890");
        wrong(9, "12345678901");
        wrong(10, "-1234567890");
        wrong(9, "0000000001");
        right("(not 123456789)");
        wrong(14, "(not 1234567890)");
        wrong(15, "(not -1234567890)");
    }

    private static void digitsThatGoOn() {
        Check.sentence("digits that go on with another byte at that");
        for (char c = 0; c < 256; c++) {
            if (c == ' ') {
                right("1" + c);
            } else if (c >= '0' && c <= '9') {
                right("1" + c);
                wrong(9, "123456789" + c);
            } else {
                wrong(c == '(' ? 2 : 1, "1" + c);
                wrong(c == '(' ? 11 : 10, "-123456789" + c);
            }
        }
        wrong(2, "12a4");
        wrong(3, "-12+3");
        wrong(2, "12-");
    }

    private static void nil() {
        Check.sentence("nil");
        right("nil");
        wrong(0, "ni");
        wrong(0, "nill");
        wrong(0, "nilx");
        wrong(0, "Nil");
        wrong(0, "nin");
    }

    private static void letters() {
        Check.sentence("a VARIABLE (one letter a .. z)");
        for (char c = 0; c < 256; c++) {
            if (c >= 'a' && c <= 'z') {
                right("(lambda(" + c + ")" + c + ")");
                right("(let((" + c + " 1))(set! " + c + " " + c + "))");
                right("(letrec((" + c + "(lambda()1)))(" + c + "))");
                wrong(8, "(lambda(" + c + c + ")1)");
            } else if (" ()".indexOf(c) < 0) {
                wrong(8, "(lambda(" + c + ")1)");
                wrong(6, "(let((" + c + " 1))1)");
                wrong(9, "(letrec((" + c + "(lambda()1)))1)");
                wrong(6, "(set! " + c + " 1)");
            }
        }
    }

    private static void lists() {
        Check.sentence("a LIST in ( ), whose first word says what it is");
        right("(not 1)");
        wrong(1, "()");
        wrong(2, "( )");
        wrong(1, "(");
        wrong(6, "(not 1");
        wrong(0, ")");
        wrong(7, "(not 1))");
        for (String word : WORDS) {
            for (int n = 1; n < word.length(); n++) {
                String cut = word.substring(0, n);
                if (!cut.equals("let")) {
                    wrong(1, "(" + cut + " 1 2)");
                }
            }
            wrong(1, "(" + word + "x 1 2)");
            wrong(1, "(" + word + word + " 1 2)");
            wrong(1, "(x" + word + " 1 2)");
        }
        wrong(1, "(CAR 1)");
        wrong(1, "(if! 1 2 3)");
        wrong(1, "(cons? 1 2)");
        wrong(1, "(eq 1 2)");
    }

    private static void lambdaVariables() {
        Check.sentence("(lambda (v ..) e ..): a function of 0 .. 4 variables");
        right("(lambda()1)");
        right("(lambda(a)1)");
        right("(lambda(a b)1)");
        right("(lambda(a b c)1)");
        right("(lambda(a b c d)1)");
        wrong(16, "(lambda(a b c d e)1)");
        wrong(16, "(lambda(a b c d 5)1)");
        wrong(16, "(lambda(a b c d (e))1)");
        wrong(8, "(lambda(5)1)");
        wrong(8, "(lambda(nil)1)");
        wrong(8, "(lambda(car)1)");
        wrong(8, "(lambda((a))1)");
        wrong(8, "(lambda a 1)");
        wrong(8, "(lambda 1)");
        wrong(7, "(lambda)");
    }

    private static void differentOnes(String before, String between, String behind) {
        String four = "abcd";
        for (int j = 0; j < 4; j++) {
            for (int i = 0; i <= j; i++) {
                StringBuilder s = new StringBuilder(before);
                int second = 0;
                for (int k = 0; k < 4; k++) {
                    second = k == j ? s.length() : second;
                    s.append(four.charAt(k == j ? i : k)).append(between);
                }
                s.setLength(s.length() - between.length());
                if (i == j) {
                    right(s + behind);
                } else {
                    wrong(second, s + behind);
                }
            }
        }
    }

    private static void different() {
        Check.sentence("lambda's variables (different ones)");
        differentOnes("(lambda(", " ", ")1)");
        wrong(10, "(lambda(a a b c d)1)");
        right("(lambda(a)(lambda(a)a))");
        Check.sentence("let's variables (different ones)");
        differentOnes("(let((", " 1)(", " 1))1)");
        wrong(11, "(let((a 1)(a x))1)");
        right("(let((a(let((a 1))a))(b(let((a 1))a)))(let((a a)(b b))1))");
    }

    private static void letVariables() {
        Check.sentence("(let ((v e) ..) e ..) with 1 .. 4 variables");
        wrong(5, "(let()1)");
        Check.value("(let((a 1))a)", 1);
        Check.value("(let((a 1)(b 2))b)", 2);
        Check.value("(let((a 1)(b 2)(c 3))c)", 3);
        Check.value("(let((a 1)(b 2)(c 3)(d 4))d)", 4);
        wrong(25, "(let((a 1)(b 2)(c 3)(d 4)(e 5))1)");
        wrong(25, "(let((a 1)(b 2)(c 3)(d 4)e)1)");
        wrong(7, "(let((a))1)");
        wrong(10, "(let((a 1 2))1)");
        wrong(6, "(let(())1)");
        wrong(6, "(let((1 1))1)");
        wrong(6, "(let((nil 1))1)");
        wrong(6, "(let(((a)1))1)");
        wrong(5, "(let(a 1)1)");
        wrong(5, "(let a 1)");
        wrong(4, "(let)");
    }

    private static void letrecVariable() {
        Check.sentence("(letrec ((v L)) e ..)");
        right("(letrec((f(lambda()1)))f)");
        wrong(8, "(letrec()f)");
        wrong(22, "(letrec((f(lambda()1))(g(lambda()1)))f)");
        wrong(9, "(letrec(())f)");
        wrong(10, "(letrec((f))f)");
        wrong(21, "(letrec((f(lambda()1)1))f)");
        wrong(8, "(letrec(f(lambda()1))f)");
        wrong(8, "(letrec f 1)");
        wrong(7, "(letrec)");
    }

    private static void letrecLambda() {
        Check.sentence("L a lambda (looked at when it is read: wrong at its first byte otherwise)");
        right("(letrec((f (lambda()1)))f)");
        right("(letrec((f ( lambda(a b c d)a)))f)");
        wrong(11, "(letrec((f 5))f)");
        wrong(11, "(letrec((f -5))f)");
        wrong(11, "(letrec((f nil))f)");
        wrong(11, "(letrec((f f))f)");
        wrong(11, "(letrec((f lambda))f)");
        wrong(11, "(letrec((f ((lambda()1))))f)");
        wrong(11, "(letrec((f (begin(lambda()1))))f)");
        wrong(11, "(letrec((f (let((a 1))(lambda()a))))f)");
        wrong(11, "(letrec((f (letrec((g(lambda()1)))g)))f)");
        wrong(11, "(letrec((f (if 1(lambda()1)(lambda()2))))f)");
        wrong(11, "(letrec((f (set! f(lambda()1))))f)");
        wrong(11, "(letrec((f (f)))f)");
        for (String two : "+ - * < = eq? cons".split(" ")) {
            wrong(11, "(letrec((f (" + two + " 1 2)))f)");
        }
        for (String one : "car cdr pair? null? not out".split(" ")) {
            wrong(11, "(letrec((f (" + one + " f)))f)");
        }
        wrong(11, "(letrec((f 5");
        // It is looked at when it is read, so what is wrong inside it is told first.
        wrong(16, "(letrec((f (car x)))f)");
        wrong(18, "(letrec((f (+ f 1 2)))f)");
        wrong(17, "(letrec((f (car f");
    }

    private static void otherForms() {
        Check.sentence("(if e e e)");
        wrong(3, "(if)");
        wrong(5, "(if 1)");
        wrong(7, "(if 1 2)");
        right("(if 1 2 3)");
        wrong(10, "(if 1 2 3 4)");
        Check.sentence("(set! v e)");
        wrong(15, "(lambda(a)(set!))");
        wrong(17, "(lambda(a)(set! a))");
        right("(lambda(a)(set! a 1))");
        wrong(20, "(lambda(a)(set! a 1 2))");
        wrong(16, "(lambda(a)(set! 1 2))");
        wrong(16, "(lambda(a)(set! (a) 2))");
        wrong(16, "(lambda(a)(set! nil 2))");
        wrong(16, "(lambda(a)(set! b 2))");
    }

    private static void oneOrMore() {
        Check.sentence("(e .. : one or more.)");
        wrong(6, "(begin)");
        Check.value("(begin 1)", 1);
        Check.value("(begin 1 2)", 2);
        Check.value("(begin" + " 1".repeat(120) + " 2)", 2);
        wrong(9, "(lambda())");
        Check.value("((lambda()1))", 1);
        Check.value("((lambda()1 2))", 2);
        wrong(11, "(let((a 1)))");
        Check.value("(let((a 1))2)", 2);
        Check.value("(let((a 1))2 3)", 3);
        wrong(23, "(letrec((f(lambda()1))))");
        Check.value("(letrec((f(lambda()1)))2)", 2);
        Check.value("(letrec((f(lambda()1)))2 3)", 3);
    }

    private static void primitives() {
        Check.sentence("the primitives with their expressions: + - * < = eq? cons (two)");
        for (String two : "+ - * < = eq? cons".split(" ")) {
            int n = two.length();
            wrong(n + 1, "(" + two + ")");
            wrong(n + 3, "(" + two + " 1)");
            right("(" + two + " 1 2)");
            wrong(n + 6, "(" + two + " 1 2 3)");
            wrong(n + 5, "(" + two + " 1 2(not 1))");
        }
        Check.sentence("car cdr pair? null? not out (one)");
        for (String one : "car cdr pair? null? not out".split(" ")) {
            int n = one.length();
            wrong(n + 1, "(" + one + ")");
            right("(" + one + " 1)");
            wrong(n + 4, "(" + one + " 1 2)");
            wrong(n + 3, "(" + one + " 1(not 1))");
        }
    }

    private static void calls() {
        Check.sentence("a CALL: an expression that is no word but a variable or list, with 0 .. 4 more");
        for (String head : new String[] {"f", "(not 1)", "(lambda()1)", "(f)"}) {
            String open = "(lambda(f)(" + head + " ";
            right(open + "))");
            right(open + "1))");
            right(open + "1 2))");
            right(open + "1 2 3))");
            right(open + "1 2 3 4))");
            wrong(open.length() + 8, open + "1 2 3 4 5))");
            wrong(open.length() + 8, open + "1 2 3 4 (f)))");
            wrong(open.length() + 8, open + "1 2 3 4 1234567890))");
        }
        wrong(1, "(1)");
        wrong(1, "(-1 2)");
        wrong(1, "(1234567890)");
        wrong(1, "(12a 2)");
        wrong(1, "(nil)");
        wrong(1, "(nil 1)");
        wrong(1, "(foo)");
        wrong(1, "(f)");
        wrong(1, "(?)");
    }

    private static void bound() {
        Check.sentence("A variable is bound by the innermost of lambda, let, letrec around it that has it");
        Check.value("(let((a 1))(let((b 2))(let((a 3))a)))", 3);
        Check.value("(let((a 1))(let((b 2))(let((c 3))a)))", 1);
        Check.value("(let((a 1))((lambda(a)a)2))", 2);
        Check.value("((lambda(a)(let((a 2))a))1)", 2);
        Check.value("(let((a 1))(begin(let((a 2))a)a))", 1);
        Check.value("(letrec((a(lambda()5)))(let((a 6))a))", 6);
        Check.kind("(let((a 6))(letrec((a(lambda()5)))a))", 3);
        wrong(0, "a");
        wrong(13, "(let((a 1))a)a");
        wrong(12, "(lambda(a)a)a");
        wrong(25, "(letrec((f(lambda()1)))f)f");
        wrong(17, "(+((lambda(a)a)1)a)");
        wrong(18, "(lambda(a)a)(set! a 1)");
        Check.sentence("in let's own expressions not yet");
        wrong(8, "(let((a a))1)");
        wrong(13, "(let((a 1)(b a))1)");
        wrong(17, "(let((a(lambda()(a))))1)");
        wrong(14, "(let((a (set! a 1)))1)");
        Check.value("(let((a 1))(let((a(+ a 1)))a))", 2);
        Check.value("(let((a 1))(let((a 5)(b a))b))", 1);
        Check.sentence("in letrec's yes");
        Check.value("(letrec((f(lambda(n)(if n(f(- n 1))7))))(f 3))", 7);
        Check.value("(let((f 1))(letrec((f(lambda()f)))(eq? f(f))))", 1);
        wrong(19, "(letrec((f(lambda()g)))1)");
    }

    private static void depth() {
        Check.sentence("Lists are at most 20 within one another (wrong at the bracket)");
        String[] fits = {"(not 1)", "(+ 1 2)", "(if 1 2 3)", "(begin 1)", "(lambda(a)a)", "(lambda()1)", "(let((a 1))a)"};
        String nineteen = "(not ".repeat(19);
        String twenty = "(not ".repeat(20);
        for (String list : fits) {
            right(nineteen + list + ")".repeat(19));
            wrong(100, twenty + list + ")".repeat(20));
        }
        wrong(100, twenty + "(");
        wrong(100, twenty + "()");
        wrong(100, twenty + "(foo");
        String[][] holders = {{"(let((a ", "))a)"}, {"(let((a 1)(b ", "))a)"}, {"(let((a 1))", ")"}, {"(lambda()", ")"}, {"(begin 1 ", ")"},
            {"(if ", " 1 2)"}, {"(if 1 ", " 2)"}, {"(if 1 2 ", ")"}, {"(+ 1 ", ")"}, {"(cons ", " 1)"}, {"(", ")"}};
        for (String[] h : holders) {
            right("(not ".repeat(18) + h[0] + "(not 1)" + h[1] + ")".repeat(18));
            wrong(95 + h[0].length(), nineteen + h[0] + "(not 1)" + h[1] + ")".repeat(19));
        }
        right("(not ".repeat(18) + "(letrec((f(lambda()1)))f)" + ")".repeat(18));
        wrong(105, nineteen + "(letrec((f(lambda()1)))f)" + ")".repeat(19));
        right("(not ".repeat(18) + "((lambda()1)(not 1))" + ")".repeat(18));
        wrong(96, nineteen + "((lambda()1)(not 1))" + ")".repeat(19));
        right("(".repeat(19) + "(not 1)" + ")".repeat(19));
        wrong(20, "(".repeat(20) + "(not 1)" + ")".repeat(20));
        right(("(not ".repeat(20) + "1" + ")".repeat(20)).repeat(2));
        right("(+" + "(not ".repeat(19) + "1" + ")".repeat(19) + "(not ".repeat(19) + "1" + ")".repeat(20));
    }

    private static void missing() {
        Check.sentence("WRONG is a text at .. its length when something is missing");
        String whole = "( let ( ( a 1 ) ( b nil ) ) ( letrec ( ( f ( lambda ( x y ) ( set! x ( + x y ) ) ) ) ) ( begin ( if a b ( f 1 2 ) ) ) ) )";
        right(whole);
        for (int i = 0; i < whole.length(); i++) {
            if (whole.charAt(i) == ' ') {
                wrong(i, whole.substring(0, i));
                wrong(i + 1, whole.substring(0, i + 1));
                wrong(i + 9, whole.substring(0, i) + " ".repeat(9));
            }
        }
        String close = "(let((a 1)(b nil))(letrec((f(lambda(x y)(set! x(+ x y)))))(begin(if a b(f 1 2))((lambda()1)))))";
        right(close);
        for (int i = 1; i < close.length(); i++) {
            if ("()".indexOf(close.charAt(i - 1)) >= 0) {
                wrong(i, close.substring(0, i));
            }
        }
        for (String word : WORDS) {
            wrong(word.length() + 1, "(" + word);
        }
    }

    private static void words() {
        Check.sentence("a word at its first byte when it is none of these or can't stand there");
        for (String word : WORDS) {
            wrong(0, word);
            wrong(5, "(not " + word + ")");
            wrong(7, "(begin(" + word.charAt(0) + "x 1))");
            wrong(13, "((lambda(f)f)" + word + ")");
            wrong(8, "(lambda(" + word + ")1)");
            wrong(6, "(let((" + word + " 1))1)");
            wrong(8, "(let((a " + word + "))1)");
            wrong(16, "(lambda(a)(set! " + word + " 1))");
            wrong(2, "1 " + word);
        }
        wrong(7, "(not 1 car)");
        wrong(7, "(not 1 foo)");
        wrong(2, "1 foo");
        wrong(0, "\u00ff");
        wrong(0, "\u0000");
    }

    private static void unbound() {
        Check.sentence("a variable that is not bound or is there twice at its byte");
        wrong(0, "x");
        wrong(5, "(not x)");
        wrong(7, "(+ 1 2 x)");
        right("(lambda(x)x)");
        wrong(10, "(lambda(x)y)");
        wrong(10, "(lambda(x x)x)");
        wrong(11, "(let((x 1)(x 2))x)");
        wrong(1, "(x 1)");
        wrong(6, "(set! x 1)");
    }

    public static void main(String[] args) {
        length();
        program();
        blanks();
        sideBySide();
        numbers();
        tenthDigit();
        digitsThatGoOn();
        nil();
        letters();
        lists();
        lambdaVariables();
        different();
        letVariables();
        letrecVariable();
        letrecLambda();
        otherForms();
        oneOrMore();
        primitives();
        calls();
        bound();
        depth();
        missing();
        words();
        unbound();
        Check.end("TextsTest");
    }
}
