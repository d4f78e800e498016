/** One part for each promise of the document: ordinary inputs, the edges it names, wrong inputs. */
public final class PromisesTest {
    private static void newObject() {
        ListDesk d = new ListDesk();
        Check.due("new: status", d.status(), 0);
        Check.due("new: place", d.place(), -1);
        Check.looks("new", d, 0, 0, 0, 0);
        Check.throwing("new: out(0)", () -> d.out(0), Check.IOOBE);
        Check.throwing("new: run(1)", () -> d.run(1), Check.ISE);
        Check.throwing("new: kind(1)", () -> d.kind(1), Check.ISE);
        Check.throwing("new: number(1)", () -> d.number(1), Check.ISE);
        ListDesk other = new ListDesk();
        Check.right(d, "1");
        Check.due("two objects share nothing", other.status(), 0);
    }

    private static void feed() {
        ListDesk d = new ListDesk();
        Check.due("one byte, the lowest", d.feed(0x4141414141414137L, 1), 1);
        Check.due("load", Check.load(d), 0);
        d.run(1);
        Check.due("the byte is 7", d.number(1), 7);
        Check.due("the highest of the lowest comes first", d.feed(0x7F00000000313233L, 3), 3);
        Check.due("load", Check.load(d), 0);
        d.run(1);
        Check.due("123", d.number(1), 123);
        for (int n : new int[] {0, -1, 9, Integer.MIN_VALUE, Integer.MAX_VALUE}) {
            Check.throwing("feed n " + n, () -> d.feed(0x31L, n), Check.IAE);
        }
        Check.due("nothing was fed by those, nor is left by load", d.feed(0x2020202020202020L, 8), 8);
        for (int i = 2; i <= 30; i++) {
            Check.due("feed", d.feed(0x2020202020202020L, 8), 8 * i);
        }
        Check.due("feed", d.feed(0x20L, 1), 241);
        Check.due("feed", d.feed(0x2020202020202020L, 8), 249);
        Check.throwing("251 bytes", () -> d.feed(0x3131L, 2), Check.ISE);
        Check.throwing("wrong n is told first", () -> d.feed(0x3131L, 9), Check.IAE);
        Check.due("the 250th", d.feed(0x38L, 1), 250);
        Check.throwing("the 251st", () -> d.feed(0x31L, 1), Check.ISE);
        Check.due("a text of 250 bytes", Check.load(d), 0);
        d.run(1);
        Check.due("its value", d.number(1), 8);
        Check.due("bytes above 127", d.feed(-1L, 8), 8);
        Check.due("are no word", Check.load(d), Check.IAE);
    }

    private static void load() {
        ListDesk d = new ListDesk();
        Check.right(d, "(out 5) (cons 1 2)");
        d.run(2000);
        Check.looks("before", d, 5, 1, 0, 1);
        Check.right(d, "6");
        Check.looks("begins anew", d, 0, 0, 0, 0);
        Check.throwing("nothing put out", () -> d.out(0), Check.IOOBE);
        d.run(1);
        Check.due("value", d.number(1), 6);
        Check.wrongAt(d, "(out 5", 6);
        Check.looks("no program", d, 0, 0, 0, 0);
        Check.throwing("no program: run", () -> d.run(1), Check.ISE);
        Check.throwing("no program: kind", () -> d.kind(1), Check.ISE);
        Check.throwing("no program: out", () -> d.out(0), Check.IOOBE);
        Check.wrongAt(d, "", 0);
        Check.right(d, "(letrec((f(lambda(n)(out n)(+ 1(f n)))))(f 3))");
        d.run(100);
        Check.wrongAt(d, "(", 1);
        Check.looks("a cut program is gone", d, 0, 0, 0, 0);
        Check.right(d, "8");
        d.run(1);
        Check.due("value", d.number(1), 8);
    }

    private static void place() {
        ListDesk d = new ListDesk();
        Check.wrongAt(d, "(car nil", 8);
        d.feed(0x31L, 1);
        Check.due("feed leaves it", d.place(), 8);
        Check.due("load", Check.load(d), 0);
        Check.due("a right text", d.place(), -1);
        d.run(1);
        Check.due("through", d.place(), -1);
        Check.right(d, "1 (begin (car nil))");
        d.run(3);
        Check.due("goes on", d.place(), -1);
        d.run(1);
        Check.due("status 3", d.status(), 3);
        Check.due("the primitive's bracket", d.place(), 9);
        Check.due("a call's", Check.ran("(let((a 1))1 (a 2))", 3).place(), 13);
        Check.due("status 4", Check.ran("(letrec((f(lambda()(not(f)))))(f))", 4).place(), 23);
        Check.due("status 5", Check.ran("(letrec((f(lambda()(lambda()1)(f))))(f))", 5).place(), 19);
    }

    private static void run() {
        ListDesk d = new ListDesk();
        Check.right(d, "(+ 1 (* 2 3))");
        for (int fuel : new int[] {0, -1, 2001, Integer.MIN_VALUE, Integer.MAX_VALUE}) {
            Check.throwing("fuel " + fuel, () -> d.run(fuel), Check.IAE);
        }
        for (int i = 1; i <= 4; i++) {
            Check.due("cut", d.run(1), 2);
            Check.looks("cut", d, i, 0, 0, 0);
        }
        Check.due("the fifth expression is the last", d.run(1), 1);
        Check.due("value", d.number(1), 7);
        Check.throwing("behind the end", () -> d.run(1), Check.ISE);
        Check.throwing("wrong fuel is told first", () -> d.run(0), Check.IAE);
        for (String text : new String[] {"(car 1)", "(letrec((f(lambda()(not(f)))))(f))", "(letrec((f(lambda()(cons 1 1)(f))))(f))"}) {
            ListDesk stopped = Check.ran(text, text.equals("(car 1)") ? 3 : text.contains("not") ? 4 : 5);
            Check.throwing("stopped", () -> stopped.run(1), Check.ISE);
        }
        Check.right(d, "(letrec((f(lambda()(f))))(f))");
        Check.due("the most fuel", d.run(2000), 2);
        Check.looks("the most fuel", d, 2000, 2, 1, 0);
    }

    private static void status() {
        ListDesk d = new ListDesk();
        Check.due("none", d.status(), 0);
        Check.right(d, "nil nil");
        d.run(1);
        Check.due("goes on", d.status(), 2);
        d.run(1);
        Check.due("through", d.status(), 1);
        Check.wrongAt(d, ")", 0);
        for (String bad : new String[] {"(car nil)", "(cdr 1)", "(+ 1 nil)", "(- nil 1)", "(* (cons 1 1) 2)", "(< nil nil)",
            "(= nil nil)", "(out nil)", "(out (cons 1 2))", "(let((a nil))(a))", "((lambda(a)a))", "((lambda()1)2)"}) {
            Check.ran(bad, 3);
        }
        for (String good : new String[] {"(eq? nil 1)", "(not nil)", "(not (cons 1 1))", "(pair? 1)", "(null? 1)", "(cons nil (lambda()1))"}) {
            Check.ran(good, 1);
        }
        Check.looks("told when all values are there", Check.ran("(let((a 1))(a (out 1)(out 2)))", 3), 8, 0, 0, 2);
        Check.looks("likewise", Check.ran("(+ nil (out 3))", 3), 4, 0, 0, 1);
    }

    private static void look() {
        ListDesk d = new ListDesk();
        for (int what : new int[] {-1, 4, Integer.MIN_VALUE, Integer.MAX_VALUE}) {
            Check.throwing("look " + what, () -> d.look(what), Check.IAE);
        }
        Check.right(d, "((lambda(a)(out a)(not((lambda(b)b 5)a)))1) 2");
        int[][] due = {{1, 0, 0, 0}, {2, 1, 0, 0}, {3, 1, 1, 0}, {4, 1, 1, 0}, {5, 1, 1, 1}, {6, 1, 1, 1}, {7, 1, 1, 1},
            {8, 2, 1, 1}, {9, 2, 2, 1}, {10, 2, 2, 1}, {11, 2, 0, 1}, {12, 2, 0, 1}};
        for (int[] row : due) {
            d.run(1);
            Check.looks("step by step", d, row[0], row[1], row[2], row[3]);
        }
        Check.looks("calls that wait stay told", Check.ran("((lambda()(not((lambda()(not(car 1))))))) ", 3), 8, 2, 2, 0);
        Check.looks("60 wait", Check.ran("(letrec((f(lambda()(not(f)))))(f))", 4), 4 + 60 * 3, 2, 60, 0);
        Check.looks("a call at the end does not wait", Check.ran("(letrec((f(lambda()((lambda()(car 1))))))(f))", 3), 8, 3, 1, 0);
    }

    private static void out() {
        ListDesk d = Check.ran("(letrec((f(lambda(n)(out(* n n))(if(< n 201)(f(+ n 1))n))))(f 1))", 1);
        Check.due("201 ints", d.look(3), 201);
        for (int k = 1; k <= 200; k++) {
            Check.due("out " + k, d.out(k), (k + 1) * (k + 1));
        }
        for (int k : new int[] {-1, 0, 201, Integer.MIN_VALUE, Integer.MAX_VALUE}) {
            Check.throwing("out " + k, () -> d.out(k), Check.IOOBE);
        }
        ListDesk e = Check.ran("(letrec((f(lambda(n)(out n)(if(< n 200)(f(+ n 1))n))))(f 1))", 1);
        Check.due("200 are all kept", e.out(0), 1);
        ListDesk f = Check.ran("(out -7)(car(out 9))", 3);
        Check.due("kept behind status 3", f.out(0), -7);
        Check.due("kept behind status 3", f.out(1), 9);
        Check.throwing("no third", () -> f.out(2), Check.IOOBE);
        Check.due("its value is nil", Check.ran("(out 1)", 1).kind(1), 1);
    }

    private static final String PARTS = "(cons (cons 11 nil) (cons (lambda()1) -13))";

    private static void kind() {
        ListDesk d = Check.ran(PARTS, 1);
        int[] due = {2, 2, 2, 0, 1, 3, 0};
        for (int way = 1; way <= 7; way++) {
            Check.due("kind " + way, d.kind(way), due[way - 1]);
        }
        for (int way : new int[] {8, 9, 10, 11, 12, 13, 14, 15, 16, 1 << 30, Integer.MAX_VALUE}) {
            Check.due("none such " + way, d.kind(way), -1);
        }
        for (int way : new int[] {0, -1, Integer.MIN_VALUE}) {
            Check.throwing("kind " + way, () -> d.kind(way), Check.IAE);
        }
        Check.right(d, "1 2");
        Check.throwing("goes on", () -> d.kind(1), Check.ISE);
        Check.throwing("the way is told first", () -> d.kind(0), Check.IAE);
        ListDesk bad = Check.ran("(cons 1 (car 2))", 3);
        Check.throwing("status 3", () -> bad.kind(1), Check.ISE);
        ListDesk deep = Check.ran("(letrec((f(lambda(n l)(if n(f(- n 1)(cons n l))l))))(f 40 nil))", 1);
        Check.due("thirty turns", deep.kind(Integer.MAX_VALUE), 2);
        Check.due("thirty turns, the last to car", deep.number(Integer.MAX_VALUE - 1), 30);
    }

    private static void number() {
        ListDesk d = Check.ran(PARTS, 1);
        int[] due = {0, 0, 0, 11, 0, 0, -13, 0, 0};
        for (int way = 1; way <= 9; way++) {
            Check.due("number " + way, d.number(way), due[way - 1]);
        }
        for (int way : new int[] {0, -1, Integer.MIN_VALUE}) {
            Check.throwing("number " + way, () -> d.number(way), Check.IAE);
        }
        Check.right(d, "5");
        Check.throwing("goes on", () -> d.number(1), Check.ISE);
        Check.throwing("the way is told first", () -> d.number(-5), Check.IAE);
        d.run(1);
        Check.due("number", d.number(1), 5);
    }

    public static void main(String[] args) {
        newObject();
        feed();
        load();
        place();
        run();
        status();
        look();
        out();
        kind();
        number();
        Check.end("PromisesTest");
    }
}
