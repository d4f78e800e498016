/** Texts that fill the rows inside the object as far as any text can, against the model. */
public final class LimitsTest {
    private static void compare(String text, int status) throws Model.Wrong {
        compare(new ListDesk(), text, status);
    }

    private static void compare(ListDesk d, String text, int status) throws Model.Wrong {
        Check.due("length of " + text, text.length() <= 250 ? 1 : 0, 1);
        Model m = new Model(text);
        Check.right(d, text);
        long spent = 0;
        for (int i = 0; i < 60 && d.status() == 2; i++) {
            spent += 1999;
            d.run(1999);
        }
        m.walk(spent);
        Check.due("status of " + text, d.status(), status);
        Check.due("status of " + text, d.status(), m.status);
        Check.due("place of " + text, d.place(), m.place);
        Check.looks(text, d, m.begun, m.objects, m.waiting, m.put.size());
        for (int k = Math.max(0, m.put.size() - 50); k < m.put.size(); k++) {
            Check.due("out " + k + " of " + text, d.out(k), m.put.get(k));
        }
        if (m.status == 1) {
            Check.due("kind of " + text, d.kind(1), Model.kindOf(m.value));
            Check.due("number of " + text, d.number(1), m.value instanceof Integer ? (Integer) m.value : 0);
        }
    }

    private static void manyOrders() throws Model.Wrong {
        compare("((lambda(f)" + "(f)f".repeat(56) + " 5)(lambda()1))", 1);
        compare("((lambda(f)" + "(f)".repeat(75) + "5)(lambda()1))", 1);
        compare("1" + " 1".repeat(124), 1);
        compare("(lambda()1)".repeat(22) + "(not 1)", 1);
        compare("(let((a 1))" + "(set! a 3)".repeat(23) + "a)", 1);
        compare("(if 0 1 2)".repeat(25), 1);
        compare("(letrec((a(lambda()5)))1)".repeat(9) + "(let((a 7))a)", 1);
    }

    private static void manyValues() throws Model.Wrong {
        compare("(letrec((f(lambda(a b c d)" + "(f a b c".repeat(17) + "(f a b c d)" + ")".repeat(17) + ")))(f 1 2 3 4))", 4);
        String lets = "(let((a 1)(b 2)(c 3)(g 4))".repeat(6);
        compare("(letrec((f(lambda(n)" + lets + "(+ n(f(- n 1)))" + ")".repeat(6) + ")))(f 1))", 4);
        compare("(letrec((f(lambda(n)" + lets + "(if n(+ n(f(- n 1)))g)" + ")".repeat(6) + ")))(f 50))", 1);
        String adds = "(+ n".repeat(15);
        compare("(letrec((f(lambda(n)(if(= n 0)1" + adds + "(f(- n 1))" + ")".repeat(15) + "))))(f 59))", 1);
    }

    private static void manyTaken() throws Model.Wrong {
        StringBuilder s = new StringBuilder();
        StringBuilder uses = new StringBuilder();
        char v = 'a';
        for (int i = 0; i < 5; i++) {
            s.append("(let(");
            for (int j = 0; j < 4; j++) {
                s.append('(').append(v).append(' ').append(i + j).append(')');
                uses.append(v).append(' ');
                v++;
            }
            s.append(')');
        }
        s.append("(letrec((z(lambda(y)(lambda()").append(uses).append("1)(z 1)))) (z 0))").append(")".repeat(5));
        compare(s.toString(), 5);
        String last = s.toString().replace("1)(z 1))))", "t)))) ").replace("(z 0)", "((z 0))");
        compare(last, 1);
        String late = "(letrec((z(lambda(a b c d)(let((g(lambda()(+ a(+ b(+ c d))))))(if(< a 1990)(z(+ a 1)b c d)(g))))))(z 0 1 2 3))";
        compare(late, 1);
        ListDesk again = new ListDesk();
        compare(again, s.toString(), 5);
        compare(again, s.toString(), 5);
        compare(again, late, 1);
        compare("(let((a 1)(b 2))((lambda()" + "(out a)".repeat(28) + "((lambda()b)))))", 1);
    }

    private static void manyLevels() throws Model.Wrong {
        compare("(letrec((g(lambda(x n)(if n(g(x)(- n 1))x))))(g " + "(lambda()".repeat(18) + "g" + ")".repeat(18) + " 18))", 1);
        compare("(let((a 3)(b 4))" + "(".repeat(9) + "(lambda()".repeat(9) + "(- a b)" + ")".repeat(18) + ")", 1);
        compare("(let((a 3))(set! a(not a))" + "((lambda(b)".repeat(8) + "(set! a(+ b a))" + ")2)".repeat(8) + "a)", 1);
    }

    private static void manyFrames() throws Model.Wrong {
        compare("(letrec((f(lambda(n l)(if n(f(- n 1)(cons l n))l))))(f 1900 nil))", 1);
        compare("(letrec((f(lambda(n)(if(< n 5000)(f(+ n 1))n))))(f 0))", 1);
    }

    private static void compareAll() {
        try {
            manyOrders();
            manyValues();
            manyTaken();
            manyLevels();
            manyFrames();
        } catch (Model.Wrong e) {
            Check.due("a text of this test is wrong", e.at, -1);
        }
    }

    public static void main(String[] args) throws InterruptedException {
        Check.deep(LimitsTest::compareAll);
        Check.end("LimitsTest");
    }
}
