/** The document's sentences on calls that wait, fuel, objects and statuses, one part for each. */
public final class MachineTest {
    private static final String LOOP = "(letrec((f(lambda(n)%s)))(f %d))";
    private static final String AGAIN = "(f(- n 1))";

    /** A call at such a place takes no room, however often it is made. */
    private static void takesNoRoom(String body) {
        String text = String.format(LOOP, body, 300);
        ListDesk d = Check.ran(text, 1);
        Check.due("waiting behind " + text, d.look(2), 0);
        ListDesk cut = new ListDesk();
        Check.right(cut, text);
        cut.run(1500);
        Check.due("goes on " + text, cut.status(), 2);
        Check.due("waiting in " + text, cut.look(2), 1);
    }

    /** A call at such a place waits: 60 of them can, the 61st can't. */
    private static void waits(String body) {
        String inside = String.format(LOOP, "(if n" + body + "7)", 59);
        Check.due("waiting behind " + inside, Check.ran(inside, 1).look(2), 0);
        String outside = String.format(LOOP, "(if n" + body + "7)", 60);
        ListDesk d = Check.ran(outside, 4);
        Check.due("waiting in " + outside, d.look(2), 60);
        Check.due("place in " + outside, d.place(), outside.indexOf(AGAIN));
    }

    private static void atTheEnd() {
        Check.sentence("AT THE END stands what is the last of a body");
        takesNoRoom("n 1(if n(f(- n 1))7)");
        takesNoRoom("(if n((lambda(m)m(f(- m 1)))n)7)");
        waits("(begin" + AGAIN + "1)");
        waits("((lambda(m)" + AGAIN + "m)n)");
        Check.sentence("and what is in an if .. (not if's first)");
        takesNoRoom("(if n(f(- n 1))7)");
        takesNoRoom("(if(not n)7(f(- n 1)))");
        takesNoRoom("(if n(if n(if(not n)1(f(- n 1)))2)7)");
        waits("(if" + AGAIN + "1 2)");
        waits("(begin(if n" + AGAIN + "1)2)");
        Check.sentence("let, letrec or begin at the end there");
        takesNoRoom("(let((a n))a(if a(f(- a 1))7))");
        takesNoRoom("(if n(let((a n)(b 1)(c 2)(d 3))(f(- a b)))7)");
        takesNoRoom("(if n(let((a n))(set! a(- a 1))(f a))7)");
        takesNoRoom("(if n(letrec((g(lambda()1)))g(f(- n 1)))7)");
        takesNoRoom("(begin 1 n(if n(begin 2(begin(f(- n 1))))7))");
        takesNoRoom("(if n(let((a n))(letrec((g(lambda()1)))(begin(if 1(f(- a 1))2))))7)");
        waits("(let((a" + AGAIN + "))a)");
        waits("(let((a 1)(b" + AGAIN + "))a)");
        waits("(let((a 1))" + AGAIN + "a)");
        waits("(letrec((g(lambda()1)))" + AGAIN + "g)");
        waits("(begin(begin" + AGAIN + ")1)");
        waits("(begin(let((a 1))" + AGAIN + ")1)");
        waits("(begin(letrec((g(lambda()1)))" + AGAIN + ")1)");
    }

    private static void otherCallsWait() {
        Check.sentence("Other calls wait");
        for (String two : "+ - * < = eq? cons".split(" ")) {
            String body = "(begin(%s%s%s)1)";
            waits(String.format(body, two, AGAIN, "1"));
            waits(String.format(body, two + " ", "1", AGAIN));
        }
        for (String one : "pair? null? not out".split(" ")) {
            waits("(begin(" + one + AGAIN + ")1)");
            waits("(let((a(" + one + AGAIN + ")))1)");
        }
        waits("(not" + AGAIN + ")");
        waits("(car(cons" + AGAIN + "1))");
        waits("(cdr(cons 1" + AGAIN + "))");
        waits("(set! n" + AGAIN + ")");
        waits("((lambda(m)m)" + AGAIN + ")");
        waits("((begin" + AGAIN + "(lambda()1)))");
        Check.sentence("so do those of the program itself");
        for (String text : new String[] {"((lambda()5))", "(begin((lambda()5)))", "(if 1((lambda()5))2)", "(let((a 1))((lambda()a)))"}) {
            ListDesk d = new ListDesk();
            Check.right(d, text);
            for (int i = 0; i < 20 && d.look(1) == 0; i++) {
                d.run(1);
            }
            Check.due("waiting in " + text, d.look(2), 1);
            d.run(1);
            Check.looks(text, d, d.look(0), 1, 0, 0);
        }
        ListDesk d = new ListDesk();
        Check.right(d, "(letrec((f(lambda()5)))(f))");
        d.run(4);
        Check.due("waiting in letrec at the program's end", d.look(2), 1);
    }

    private static void sixtyFirst() {
        Check.sentence("4 a call would be the 61st that waits");
        String body = "(if n(not(f(- n 1)))%s)";
        ListDesk d = new ListDesk();
        Check.right(d, String.format(LOOP, String.format(body, "0"), 59));
        Check.due("60 wait", d.run(5 + 8 * 59), 2);
        Check.looks("60 wait", d, 5 + 8 * 59, 2, 60, 0);
        Check.due("and it goes on", d.run(2000), 1);
        String text = String.format(LOOP, String.format(body, "0"), 60);
        ListDesk e = new ListDesk();
        Check.right(e, text);
        Check.due("a value of the 61st is missing", e.run(5 + 8 * 60 - 1), 2);
        Check.due("the 61st", e.run(1), 4);
        Check.looks("the 61st", e, 5 + 8 * 60, 2, 60, 0);
        Check.due("its place", e.place(), text.indexOf(AGAIN));
        Check.value(String.format(LOOP, String.format(body, "((lambda()0))"), 59), 1);
        Check.ran(String.format(LOOP, String.format(body, "(not((lambda()0)))"), 58), 1);
        String last = String.format(LOOP, String.format(body, "(not((lambda()0)))"), 59);
        Check.stops(last, 4, last.indexOf("((lambda()0)"));
        Check.sentence("3 .. (told as soon as all of its values are there), also where the call would be the 61st");
        for (String bad : new String[] {"(n)", "((lambda()0)1)", "((lambda(a)0))"}) {
            String three = String.format(LOOP, String.format(body, "(not" + bad + ")"), 59);
            Check.stops(three, 3, three.lastIndexOf(bad));
            Check.due("waiting in " + three, Check.ran(three, 3).look(2), 60);
        }
        Check.due("its arguments come first", Check.ran(String.format(LOOP, "(out n)(not(f(- n 1)))", 70), 4).look(3), 60);
    }

    private static void costs(String text, int cost) {
        ListDesk d = new ListDesk();
        Check.right(d, text);
        for (int i = 1; i < cost; i++) {
            Check.due("run " + i + " of " + text, d.run(1), 2);
            Check.due("begun in " + text, d.look(0), i);
        }
        Check.due("last run of " + text, d.run(1), 1);
        Check.due("begun in " + text, d.look(0), cost);
        ListDesk more = new ListDesk();
        Check.right(more, text);
        Check.due("run with more of " + text, more.run(cost + 1), 1);
        Check.due("begun in " + text, more.look(0), cost);
    }

    private static void fuel() {
        Check.sentence("FUEL: each expression COSTS 1 as it begins");
        costs("1", 1);
        costs("nil", 1);
        costs("1 2", 2);
        costs("(lambda(a)a a a)", 1);
        costs("(if 1 2 3)", 3);
        costs("(if 0 2 3)", 3);
        costs("(let((a 1))2)", 3);
        costs("(let((a 1)(b 2))a)", 4);
        costs("(let((a 1))(set! a 2))", 4);
        costs("(letrec((f(lambda()1)))2)", 3);
        costs("(begin 1)", 2);
        costs("(begin 1 2)", 3);
        for (String two : "+ - * < = eq? cons".split(" ")) {
            costs("(" + two + " 1 2)", 3);
        }
        for (String one : "pair? null? not out".split(" ")) {
            costs("(" + one + " 1)", 2);
        }
        costs("(car(cons 1 2))", 4);
        costs("(cdr(cons 1 2))", 4);
        costs("((lambda()1))", 3);
        costs("((lambda(a b)a)1 2)", 5);
        costs("((lambda(a)((lambda(b)b)a))1)", 7);
        Check.sentence("what costs nothing is done at once when the fuel is used up");
        ListDesk d = new ListDesk();
        Check.right(d, "(out 1)(cons 2 3)((lambda()4))");
        int[][] due = {{1, 0, 0, 0}, {2, 0, 0, 1}, {3, 0, 0, 1}, {4, 0, 0, 1}, {5, 1, 0, 1}, {6, 1, 0, 1}, {7, 2, 1, 1}, {8, 2, 0, 1}};
        for (int[] row : due) {
            Check.due("run", d.run(1), row[0] == 8 ? 1 : 2);
            Check.looks("cut behind " + row[0], d, row[0], row[1], row[2], row[3]);
        }
    }

    private static void objectsCounted() {
        Check.sentence("OBJECTS are pairs");
        Check.objects("1 nil(not 1)", 0);
        Check.objects("(cons 1 2)", 1);
        Check.objects("(cons 1(cons 2 3))", 2);
        Check.objects("(let((a(cons 1 2)))(car a)(cdr a)(pair? a)(eq? a a))", 1);
        Check.sentence("functions (each time a lambda comes)");
        Check.objects("(lambda()1)", 1);
        Check.objects("(lambda()(lambda()1))", 1);
        Check.objects("((lambda()(lambda()1)))", 2);
        Check.objects("(let((f(lambda()(lambda()1))))(f)(f)(f))", 4);
        Check.objects("(if 1 2(lambda()1))", 0);
        Check.sentence("variables that a set! in the program names .. each time they are bound");
        Check.objects("(let((a 1)(b 2))(+ a b))", 0);
        Check.objects("(let((a 1)(b 2))(set! a b))", 1);
        Check.objects("(let((a 1)(b 2))(set! b a))", 1);
        Check.objects("(let((a 1)(b 2))(set! b a)(set! a b)(set! a b))", 2);
        Check.objects("(let((a 1))(if 1 2(set! a 3)))", 1);
        Check.objects("(let((a 1))(let((f(lambda()(set! a 2))))3))", 2);
        Check.objects("((lambda(a b c d)(set! a 1)(set! c 1)(set! d 1))1 2 3 4)", 4);
        Check.objects("(let((f(lambda(a)(set! a 1))))(f 1)(f 1)(f 1))", 4);
        Check.objects("(let((a 1))(set! a 2))(let((a 1))a)", 1);
        Check.objects("(let((a 1))(let((a 2))(set! a 3)))", 1);
        Check.objects("(let((a 1))(let((a(set! a 2)))a))", 1);
        Check.objects("((lambda(a)(let((b 1))(set! b a)))1)", 2);
        Check.sentence("or that letrec binds, each time they are bound");
        Check.objects("(letrec((f(lambda()1)))1)", 2);
        Check.objects("(letrec((f(lambda()1)))(set! f 1))", 2);
        Check.objects("(let((g(lambda()(letrec((f(lambda()1)))1))))(g)(g)(g))", 7);
    }

    /** So many objects (2 or more) are made before the rest comes. */
    private static String after(int objects, String rest) {
        return "(letrec((f(lambda(n)(if n(begin(cons n n)(f(- n 1)))0))))(f " + (objects - 2) + ")" + rest + ")";
    }

    /** The rest makes one object for each place; where the 2,001st would be made it stops. */
    private static void full(String rest, int[] places, int[] waiting) {
        int n = places.length;
        ListDesk inside = Check.ran(after(2000 - n, rest), 1);
        Check.due("objects with all of " + rest, inside.look(1), 2000);
        for (int i = 0; i < n; i++) {
            String text = after(2000 - i, rest);
            ListDesk d = Check.ran(text, 5);
            Check.due("place for " + i + " of " + rest, d.place(), text.indexOf(rest) + places[i]);
            Check.due("objects for " + i + " of " + rest, d.look(1), 2000);
            Check.due("waiting for " + i + " of " + rest, d.look(2), waiting[i]);
        }
    }

    private static void tooManyObjects() {
        Check.sentence("5 there would be more than 2,000 objects .. the bracket of the expression");
        full("(cons 1 2)", new int[] {0}, new int[] {0});
        full("(+ 1(car(cons 1 2)))", new int[] {8}, new int[] {0});
        full("(lambda()1)", new int[] {0}, new int[] {0});
        full("(cons(cons 1 2)(lambda()1))", new int[] {5, 15, 0}, new int[] {0, 0, 0});
        full("(not((lambda()(cons 1 2))))", new int[] {5, 14}, new int[] {0, 1});
        Check.sentence("of 5 by variables that of the let, letrec, or call, several one by one, in order");
        full("(let((a 1))(set! a 2))", new int[] {0}, new int[] {0});
        full("(let((a 1)(b 2)(c 3)(d 4))(set! d(set! b 1)))", new int[] {0, 0}, new int[] {0, 0});
        full("(not(let((a 1)(b 2))(set! b(set! a 1))))", new int[] {4, 4}, new int[] {0, 0});
        full("(letrec((g(lambda()1)))g)", new int[] {0, 10}, new int[] {0, 0});
        full("((lambda(a b c d)(set! a(set! d 1)))1 2 3 4)", new int[] {1, 0, 0}, new int[] {0, 1, 1});
        Check.sentence("or call (which waits already, when it is one that waits)");
        full("((lambda(a)(set! a 1))2)", new int[] {1, 0}, new int[] {0, 1});
        full("((lambda()((lambda(a)(set! a 1))2)))", new int[] {1, 11, 10}, new int[] {0, 1, 1});
        full("((lambda()(not((lambda(a)(set! a 1))2))))", new int[] {1, 15, 14}, new int[] {0, 1, 2});
        full("((lambda()(let((a 1))(set! a 2))))", new int[] {1, 10}, new int[] {0, 1});
    }

    private static void statuses() {
        Check.sentence("STATUS of a program: 0 there is none, 1 it is through, 2 it goes on");
        ListDesk d = new ListDesk();
        Check.due("none", d.status(), 0);
        Check.right(d, "1 2");
        Check.due("one is begun", d.run(1), 2);
        Check.due("one is begun", d.status(), 2);
        Check.due("the last", d.run(1), 1);
        Check.due("the last", d.status(), 1);
        Check.sentence("3 .. (told as soon as all of its values are there)");
        for (String text : new String[] {"(car 1)", "(out nil)", "(cdr nil)", "(car(car 1))"}) {
            ListDesk e = new ListDesk();
            Check.right(e, text);
            Check.due("its value is missing in " + text, e.run(text.length() > 9 ? 2 : 1), 2);
            Check.due("its value is there in " + text, e.run(1), 3);
        }
        Check.looks("not when only the first is there", Check.ran("(+ nil(out 3))", 3), 4, 0, 0, 1);
        Check.looks("nor before the arguments are", Check.ran("(let((a 1))(a(out 1)(out 2)))", 3), 8, 0, 0, 2);
        Check.looks("nor for a wrong number", Check.ran("((lambda()1)(out 1))", 3), 4, 1, 0, 1);
        Check.sentence("3 to 5 have a PLACE: the bracket of the expression");
        Check.stops("(car nil)", 3, 0);
        Check.stops(" (not(car nil))", 3, 5);
        Check.stops("(let((f(lambda(a)(+ a nil))))(f 1))", 3, 17);
        String far = "1".repeat(9) + " ".repeat(232);
        Check.stops(far + "(cdr nil)", 3, 241);
    }

    private static void doesNotGoOn() {
        Check.sentence("Behind 1 and 3 to 5 it does not go on");
        String[] texts = {"(out 1)2", "(out 1)(car 2)(out 3)", "(letrec((f(lambda()(out 1)(not(f)))))(f))",
            "(letrec((f(lambda()(out 1)(cons 1 1)(f))))(f))"};
        int[] status = {1, 3, 4, 5};
        for (int i = 0; i < texts.length; i++) {
            ListDesk d = Check.ran(texts[i], status[i]);
            int[] before = {d.place(), d.look(0), d.look(1), d.look(2), d.look(3)};
            for (int fuel : new int[] {1, 7, 2000}) {
                Check.throwing("run " + texts[i], () -> d.run(fuel), Check.ISE);
            }
            Check.due("status of " + texts[i], d.status(), status[i]);
            Check.due("place of " + texts[i], d.place(), before[0]);
            Check.looks(texts[i], d, before[1], before[2], before[3], before[4]);
        }
    }

    public static void main(String[] args) {
        atTheEnd();
        otherCallsWait();
        sixtyFirst();
        fuel();
        objectsCounted();
        tooManyObjects();
        statuses();
        doesNotGoOn();
        Check.end("MachineTest");
    }
}
