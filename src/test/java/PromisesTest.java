/** The sentences of the ten promises, one part for each, in every status that a program can have. */
public final class PromisesTest {
    private static final int[] NEVER = {Integer.MIN_VALUE, -257, -256, -1, 0};

    /** A new object in a status; its program has put out an int, but for status 0. */
    private static ListDesk inStatus(int status) {
        String[] texts = {"", "(out 7)(cons 8 nil)", "(out 7)1", "(out 7)(car 2)", "(out 7)(letrec((f(lambda()(not(f)))))(f))",
            "(out 7)(letrec((f(lambda()(cons 1 1)(f))))(f))"};
        if (status == 2) {
            ListDesk d = new ListDesk();
            Check.right(d, texts[2]);
            d.run(2);
            return d;
        }
        return status == 0 ? new ListDesk() : Check.ran(texts[status], status);
    }

    private static int[] seen(ListDesk d) {
        return new int[] {d.status(), d.place(), d.look(0), d.look(1), d.look(2), d.look(3)};
    }

    private static void unchanged(String what, ListDesk d, int[] before) {
        Check.due(what + ": status stays", d.status(), before[0]);
        Check.due(what + ": place stays", d.place(), before[1]);
        Check.looks(what + " stays", d, before[2], before[3], before[4], before[5]);
    }

    private static void noProgram(String what, ListDesk d) {
        Check.due(what + ": status", d.status(), 0);
        Check.looks(what, d, 0, 0, 0, 0);
        Check.throwing(what + ": run", () -> d.run(1), Check.ISE);
        Check.throwing(what + ": run", () -> d.run(2000), Check.ISE);
        Check.throwing(what + ": out", () -> d.out(0), Check.IOOBE);
        Check.throwing(what + ": kind", () -> d.kind(1), Check.ISE);
        Check.throwing(what + ": number", () -> d.number(1), Check.ISE);
    }

    private static void newObject() {
        Check.sentence("ListDesk(): No program");
        ListDesk d = new ListDesk();
        noProgram("new", d);
        Check.due("place", d.place(), -1);
        Check.due("nothing is on its tape", d.feed(0x31L, 1), 1);
        ListDesk e = new ListDesk();
        Check.due("nor is there a text", Check.load(e), Check.IAE);
        Check.due("the text that is none", e.place(), 0);
        noProgram("each is for itself", new ListDesk());
    }

    private static void feedOneToEight() {
        Check.sentence("n bytes (1 .. 8; the lowest n of bytes, the highest of these first)");
        String digits = "98765432";
        for (int n = 1; n <= 8; n++) {
            for (long above : new long[] {0L, -1L, 0x3131313131313131L}) {
                long bytes = Check.packed(digits.substring(0, n));
                if (n < 8) {
                    bytes |= above << 8 * n;
                }
                ListDesk d = new ListDesk();
                Check.due("feed " + n, d.feed(bytes, n), n);
                Check.due("load", Check.load(d), 0);
                d.run(1);
                Check.due("its number", d.number(1), Integer.parseInt(digits.substring(0, n)));
            }
        }
        ListDesk high = new ListDesk();
        high.feed(0x3132333435363780L, 8);
        Check.due("a byte above 127", Check.load(high), Check.IAE);
        Check.due("stands last", high.place(), 7);
        high.feed(0xFF32333435363738L, 8);
        Check.due("a byte above 127", Check.load(high), Check.IAE);
        Check.due("stands first", high.place(), 0);
        Check.sentence("IllegalArgumentException: n is not so");
        ListDesk d = new ListDesk();
        for (int n : new int[] {Integer.MIN_VALUE, -8, -1, 0, 9, 16, 257, 264, Integer.MAX_VALUE}) {
            Check.throwing("feed " + n, () -> d.feed(0x31L, n), Check.IAE);
        }
        Check.due("nothing of that is on the tape", d.feed(0x32L, 1), 1);
    }

    private static void feedHowMany() {
        Check.sentence("more on the tape: how many");
        ListDesk d = new ListDesk();
        int sum = 0;
        for (int n = 1; n <= 8; n++) {
            sum += n;
            Check.due("feed " + n, d.feed(0x2020202020202020L, n), sum);
        }
        Check.sentence("IllegalStateException: there would be more than 250");
        for (int n = 1; n <= 8; n++) {
            ListDesk e = new ListDesk();
            Check.feed(e, "5" + " ".repeat(249 - n));
            int more = n;
            Check.due("the 250th", e.feed(0x2020202020202020L, n), 250);
            Check.throwing("the 251st", () -> e.feed(0x20L, 1), Check.ISE);
            Check.throwing("more than 250", () -> e.feed(0x20L, more), Check.ISE);
            Check.throwing("a wrong n is told first", () -> e.feed(0x20L, 9), Check.IAE);
            Check.throwing("a wrong n is told first", () -> e.feed(0x20L, 0), Check.IAE);
            ListDesk f = new ListDesk();
            Check.feed(f, "5" + " ".repeat(250 - n));
            Check.throwing("251 with " + n, () -> f.feed(0x3131313131313131L, more), Check.ISE);
            for (int i = 252 - n; i <= 250; i++) {
                Check.due("nothing of that is on the tape", f.feed(0x20L, 1), i);
            }
            Check.due("load", Check.load(f), 0);
            f.run(1);
            Check.due("the text is as it was", f.number(1), 5);
            Check.due("and is used up", f.feed(0x20L, 1), 1);
        }
    }

    private static void feedTouchesNothing() {
        Check.sentence("feed: more on the tape (and nothing else)");
        for (int status = 0; status <= 5; status++) {
            ListDesk d = inStatus(status);
            int[] before = seen(d);
            Check.feed(d, "(car ( 5 6 nil");
            unchanged("fed in status " + status, d, before);
        }
        ListDesk d = new ListDesk();
        Check.right(d, "(let((a 1)(b 2))(out(+ a b))(cons a b))");
        for (int i = 0; i < 9; i++) {
            Check.due("goes on", d.run(1), 2);
            Check.due("fed", d.feed(0x5858585858585858L, 8), 8 * i + 8);
        }
        d.run(100);
        Check.due("what was fed is no part of the program", d.number(2), 1);
        Check.due("what was fed is no part of the program", d.out(0), 3);
    }

    private static void loadUsesUp() {
        Check.sentence("The tape (used up, also when this throws) is the program");
        ListDesk d = new ListDesk();
        Check.right(d, "12");
        Check.due("used up", d.feed(0x33L, 1), 1);
        Check.due("load", Check.load(d), 0);
        d.run(1);
        Check.due("only what came later", d.number(1), 3);
        Check.due("nothing came", Check.load(d), Check.IAE);
        Check.due("nothing came", d.place(), 0);
        Check.wrongAt(d, "12x4", 2);
        Check.due("used up, though wrong", d.feed(0x34L, 1), 1);
        Check.due("load", Check.load(d), 0);
        d.run(1);
        Check.due("only what came later", d.number(1), 4);
        Check.feed(d, " ".repeat(250));
        Check.due("250 blanks", Check.load(d), Check.IAE);
        Check.due("there is room for 250 again", d.place(), 250);
        Check.feed(d, "1".repeat(8) + " ".repeat(242));
        Check.due("250 again", Check.load(d), 0);
    }

    private static void loadBeginsAnew() {
        Check.sentence("which begins anew (status 2, nothing put out, no steps)");
        for (int status = 0; status <= 5; status++) {
            ListDesk d = inStatus(status);
            Check.right(d, "(out 1)(cons 2 3)");
            Check.looks("anew behind status " + status, d, 0, 0, 0, 0);
            Check.throwing("nothing put out", () -> d.out(0), Check.IOOBE);
            Check.throwing("no value yet", () -> d.kind(1), Check.ISE);
            d.run(4);
            Check.looks("its own steps", d, 4, 0, 0, 1);
            Check.due("its own int", d.out(0), 1);
            Check.due("through", d.run(1), 1);
            Check.due("its own value", d.number(3), 3);
        }
        ListDesk d = new ListDesk();
        Check.right(d, "(letrec((f(lambda(n)(if n(not(f(- n 1)))0))))(f 59))");
        d.run(5 + 8 * 59);
        Check.due("60 wait", d.look(2), 60);
        Check.right(d, "(letrec((f(lambda(n)(if n(not(f(- n 1)))0))))(f 59))");
        Check.due("none waits", d.look(2), 0);
        d.run(2000);
        Check.due("60 can wait again", d.status(), 1);
    }

    /** What an earlier text had, right or wrong, means nothing for a later one. */
    private static void loadForgets() {
        Check.sentence("which begins anew (of the texts before nothing is left)");
        ListDesk d = new ListDesk();
        Check.right(d, "(let((a 1)(b 2))(set! a(set! b 3)))");
        d.run(2000);
        Check.due("variables that a set! names", d.look(1), 2);
        Check.right(d, "(let((a 1)(b 2))(+ a b))");
        d.run(2000);
        Check.due("no set! names them", d.look(1), 0);
        Check.wrongAt(d, "(lambda(a)(lambda(b)(lambda(c)(let((d a)(e b)(x", 47);
        Check.wrongAt(d, "(lambda()a)", 9);
        Check.wrongAt(d, "(lambda()x)", 9);
        Check.right(d, "(let((a 1))((lambda()a)))");
        Check.right(d, "(+ 5(let((a 1))((lambda()a))))");
        d.run(2000);
        Check.due("a variable of the same name", d.number(1), 6);
        anewBehind(66, "(let((a 1)(b 2)(c 3)(d", 22);
        anewBehind(40, "(lambda(a b c d)(lambda(e f g h)(e x", 35);
        anewBehind(40, "(lambda(a b c d)(lambda(e f g h)(e)))", -1);
        anewBehind(40, "(letrec((f(lambda()(set! f(f)))))1)", -1);
    }

    /** As many texts as an object's 512 calls are enough for, then one that needs all of its variables. */
    private static void anewBehind(int times, String text, int place) {
        ListDesk d = new ListDesk();
        for (int i = 0; i < times; i++) {
            if (place < 0) {
                Check.right(d, text);
            } else {
                Check.wrongAt(d, text, place);
            }
        }
        Check.right(d, "(let((a 1)(b 20)(c 300))(lambda(x y)a)(((lambda()(lambda()(+ c(- b a)))))))");
        Check.due("run", d.run(2000), 1);
        Check.looks("behind " + text, d, 14, 3, 0, 0);
        Check.due("value behind " + text, d.number(1), 319);
    }

    private static void loadWrong() {
        Check.sentence("IllegalArgumentException: it is wrong (no program then)");
        for (int status = 0; status <= 5; status++) {
            ListDesk d = inStatus(status);
            Check.wrongAt(d, "(out 1)x", 7);
            noProgram("wrong behind status " + status, d);
            Check.due("place stays", d.place(), 7);
            Check.right(d, "9");
        }
        ListDesk d = new ListDesk();
        Check.wrongAt(d, "(let((a 1)(b 2))(lambda(c d)(set! a x", 36);
        Check.right(d, "(let((a 1)(b 2))(lambda(c d)(set! a b)))");
        Check.wrongAt(d, "a", 0);
        Check.wrongAt(d, "(not " + "(".repeat(25), 24);
        Check.right(d, "(not ".repeat(20) + "1" + ")".repeat(20));
    }

    private static void place() {
        Check.sentence("Where the latest text was wrong");
        ListDesk d = new ListDesk();
        Check.wrongAt(d, ")", 0);
        Check.wrongAt(d, "1 )", 2);
        Check.wrongAt(d, " ".repeat(249) + "-", 249);
        Check.wrongAt(d, "(not" + " ".repeat(245) + "1", 250);
        Check.throwing("refused", () -> d.run(1), Check.ISE);
        Check.throwing("refused", () -> d.run(0), Check.IAE);
        Check.throwing("refused", () -> d.look(4), Check.IAE);
        Check.throwing("refused", () -> d.out(0), Check.IOOBE);
        Check.throwing("refused", () -> d.kind(1), Check.ISE);
        Check.throwing("refused", () -> d.number(0), Check.IAE);
        Check.throwing("refused", () -> d.feed(1L, 9), Check.IAE);
        Check.due("refused calls leave it", d.place(), 250);
        Check.sentence("or the place of status 3 to 5; -1 otherwise");
        int[] due = {-1, -1, -1, 7, 30, 26};
        for (int status = 0; status <= 5; status++) {
            ListDesk e = inStatus(status);
            Check.due("status " + status, e.place(), due[status]);
            Check.right(e, "1");
            Check.due("a right text", e.place(), -1);
        }
        ListDesk e = inStatus(3);
        Check.wrongAt(e, "(not x)", 5);
        Check.right(e, "(car 1)");
        e.run(2);
        Check.due("the first byte is a place", e.place(), 0);
        Check.right(e, "1");
        Check.due("gone with the text", e.place(), -1);
    }

    /* Eight expressions, and seven for each time round. */
    private static final String ROUND = "(letrec((f(lambda(n)(if n(f(- n 1))0))))(f %d))";

    private static void run() {
        Check.sentence("Goes on with so much fuel (1 .. 2,000): the status");
        String most = String.format(ROUND, 284) + " 1 1 1 1";
        ListDesk d = new ListDesk();
        Check.right(d, most);
        Check.due("2,000 are enough for 2,000", d.run(2000), 1);
        Check.due("begun", d.look(0), 2000);
        Check.right(d, most + " 1");
        Check.due("but not for 2,001", d.run(2000), 2);
        Check.due("begun", d.look(0), 2000);
        Check.due("one more", d.run(1), 1);
        Check.due("begun", d.look(0), 2001);
        Check.right(d, most);
        Check.due("1,999 are not enough", d.run(1999), 2);
        Check.due("begun", d.look(0), 1999);
        Check.due("one more", d.run(1), 1);
        Check.right(d, "1");
        Check.due("more than it needs", d.run(2000), 1);
        Check.right(d, "1 2 3");
        Check.due("what was left is gone", d.run(1), 2);
        Check.due("begun", d.look(0), 1);
        Check.due("two", d.run(2), 1);
        Check.sentence("IllegalArgumentException: it is not so");
        for (int status = 0; status <= 5; status++) {
            ListDesk e = inStatus(status);
            int[] before = seen(e);
            for (int fuel : new int[] {Integer.MIN_VALUE, -2000, -1, 0, 2001, 65537, Integer.MAX_VALUE}) {
                Check.throwing("run " + fuel + " in status " + status, () -> e.run(fuel), Check.IAE);
            }
            unchanged("wrong fuel in status " + status, e, before);
            Check.sentence("IllegalStateException: the status is not 2");
            if (status != 2) {
                Check.throwing("run 1 in status " + status, () -> e.run(1), Check.ISE);
                Check.throwing("run 2,000 in status " + status, () -> e.run(2000), Check.ISE);
                unchanged("refused in status " + status, e, before);
            } else {
                Check.due("run 1 in status 2", e.run(1), 1);
            }
        }
    }

    private static void status() {
        Check.sentence("int status(): The status");
        for (int status = 0; status <= 5; status++) {
            ListDesk d = inStatus(status);
            Check.due("status", d.status(), status);
            Check.due("asked again", d.status(), status);
        }
        ListDesk d = new ListDesk();
        Check.right(d, "(car(cdr(cons 1 2)))");
        for (int i = 0; i < 4; i++) {
            Check.due("run tells the same", d.run(1), d.status());
        }
        Check.due("run tells the same", d.run(1), 3);
        Check.due("status", d.status(), 3);
    }

    private static void look() {
        Check.sentence("Of the program 0 expressions begun, 1 objects made, 2 calls that wait now, 3 ints put out");
        ListDesk d = new ListDesk();
        Check.right(d, "((lambda(a)(out a)(not((lambda(b)b 5)a)))1) 2");
        int[][] due = {{1, 0, 0, 0}, {2, 1, 0, 0}, {3, 1, 1, 0}, {4, 1, 1, 0}, {5, 1, 1, 1}, {6, 1, 1, 1}, {7, 1, 1, 1},
            {8, 2, 1, 1}, {9, 2, 2, 1}, {10, 2, 2, 1}, {11, 2, 0, 1}, {12, 2, 0, 1}};
        for (int[] row : due) {
            d.run(1);
            Check.looks("behind " + row[0], d, row[0], row[1], row[2], row[3]);
        }
        Check.sentence("(0 behind the end; with status 3 to 5 as it was)");
        Check.due("behind the end", inStatus(1).look(2), 0);
        Check.due("status 3, none waits", inStatus(3).look(2), 0);
        Check.due("status 3, one waits", Check.ran("((lambda()(car 1)))", 3).look(2), 1);
        Check.due("status 3, two wait", Check.ran("((lambda()(not((lambda()(car 1))))))", 3).look(2), 2);
        Check.due("status 4", inStatus(4).look(2), 60);
        Check.due("status 5, one waits", inStatus(5).look(2), 1);
        Check.due("status 5, two wait", Check.ran("((lambda()(not(letrec((f(lambda()(cons 1 1)(f))))(f)))))", 5).look(2), 2);
        Check.sentence("IllegalArgumentException: no such what");
        for (int status = 0; status <= 5; status++) {
            ListDesk e = inStatus(status);
            for (int what : new int[] {Integer.MIN_VALUE, -2, -1, 4, 5, 256, 259, Integer.MAX_VALUE}) {
                Check.throwing("look " + what + " in status " + status, () -> e.look(what), Check.IAE);
            }
            for (int what = 0; what <= 3; what++) {
                int one = what;
                Check.throwing("look " + what + " in status " + status, () -> e.look(one), 0);
            }
        }
    }

    /** A program that is through and has put out the squares of 1 to n. */
    private static ListDesk squares(int n) {
        return Check.ran("(letrec((f(lambda(n)(out(* n n))(if(< n " + n + ")(f(+ n 1))n))))(f 1))", 1);
    }

    private static void out() {
        Check.sentence("Int k that was put out (the latest 200 are kept)");
        for (int n : new int[] {1, 2, 199, 200, 201, 202, 399, 400, 401, 1000}) {
            ListDesk d = squares(n);
            Check.due("how many", d.look(3), n);
            int oldest = Math.max(0, n - 200);
            for (int k = oldest; k < n; k++) {
                Check.due("out " + k + " of " + n, d.out(k), (k + 1) * (k + 1));
            }
            Check.sentence("IndexOutOfBoundsException: there is none such");
            for (int k : new int[] {Integer.MIN_VALUE, -200, -1, oldest - 1, n, n + 1, n + 199, n + 200, Integer.MAX_VALUE}) {
                Check.throwing("out " + k + " of " + n, () -> d.out(k), Check.IOOBE);
            }
        }
        for (int status = 0; status <= 5; status++) {
            ListDesk d = inStatus(status);
            if (status > 0) {
                Check.due("status " + status, d.out(0), 7);
            }
            int next = status > 0 ? 1 : 0;
            Check.throwing("status " + status, () -> d.out(next), Check.IOOBE);
            Check.throwing("status " + status, () -> d.out(-1), Check.IOOBE);
        }
    }

    private static ListDesk chain(String cons, int n) {
        return Check.ran("(letrec((f(lambda(n l)(if n(f(- n 1)" + cons + ")l))))(f " + n + " 77))", 1);
    }

    private static void ways() {
        Check.sentence("from the highest bit behind the first 1 of a way on, 0 is car, 1 is cdr; 1 is the value itself");
        ListDesk d = Check.ran("(cons(cons 4(cons 10 nil))(cons(lambda()1)(cons 14 -15)))", 1);
        int[] kinds = {2, 2, 2, 0, 2, 3, 2, -1, -1, 0, 1, -1, -1, 0, 0, -1};
        int[] numbers = {0, 0, 0, 4, 0, 0, 0, 0, 0, 10, 0, 0, 0, 14, -15, 0};
        for (int way = 1; way <= 16; way++) {
            Check.due("kind " + way, d.kind(way), kinds[way - 1]);
            Check.due("number " + way, d.number(way), numbers[way - 1]);
        }
        Check.sentence("-1 when there is none such; 0 when it is none");
        for (int turns = 29; turns <= 31; turns++) {
            ListDesk cars = chain("(cons l n)", turns);
            ListDesk cdrs = chain("(cons n l)", turns);
            int kind = turns == 30 ? 0 : turns < 30 ? -1 : 2;
            Check.due("the longest way of cars", cars.kind(1 << 30), kind);
            Check.due("the longest way of cars", cars.number(1 << 30), turns == 30 ? 77 : 0);
            Check.due("the longest way of cdrs", cdrs.kind(Integer.MAX_VALUE), kind);
            Check.due("the longest way of cdrs", cdrs.number(Integer.MAX_VALUE), turns == 30 ? 77 : 0);
            Check.due("its last turn to car", cdrs.number(Integer.MAX_VALUE - 1), turns < 30 ? 0 : 30);
            Check.due("its first turn to car", cdrs.kind(Integer.MAX_VALUE - (1 << 29)), -1);
        }
        for (String text : new String[] {"5", "nil", "(lambda()1)"}) {
            ListDesk e = Check.ran(text, 1);
            Check.due("kind of " + text, e.kind(1), text.equals("5") ? 0 : text.equals("nil") ? 1 : 3);
            Check.due("number of " + text, e.number(1), text.equals("5") ? 5 : 0);
            for (int way : new int[] {2, 3, 4, 1 << 30, Integer.MAX_VALUE}) {
                Check.due("kind in " + text, e.kind(way), -1);
                Check.due("number in " + text, e.number(way), 0);
            }
        }
    }

    private static void waysRefused() {
        for (int status = 0; status <= 5; status++) {
            ListDesk d = inStatus(status);
            Check.sentence("IllegalArgumentException: the way is below 1");
            for (int way : NEVER) {
                Check.throwing("kind " + way + " in status " + status, () -> d.kind(way), Check.IAE);
                Check.throwing("number " + way + " in status " + status, () -> d.number(way), Check.IAE);
            }
            Check.sentence("IllegalStateException: the status is not 1");
            for (int way : new int[] {1, 2, 3, 7, Integer.MAX_VALUE}) {
                Check.throwing("kind " + way + " in status " + status, () -> d.kind(way), status == 1 ? 0 : Check.ISE);
                Check.throwing("number " + way + " in status " + status, () -> d.number(way), status == 1 ? 0 : Check.ISE);
            }
        }
        ListDesk d = inStatus(1);
        Check.due("asked twice", d.number(2), 8);
        Check.due("asked twice", d.number(2), 8);
        Check.due("asked twice", d.kind(3), 1);
    }

    private static void manyCalls() {
        Check.sentence("An object is used for at most 512 calls after it has been made");
        ListDesk d = new ListDesk();
        Check.feed(d, "(letrec((f(lambda(n)(out n)(f(+ n 1)))))(f 0))");
        Check.due("calls 1 to 7", Check.load(d), 0);
        for (int i = 8; i <= 507; i++) {
            Check.due("call " + i, d.run(2000), 2);
        }
        Check.due("call 508", d.look(0), 1000000);
        Check.due("call 509", d.look(3), 142857);
        Check.due("call 510", d.out(142856), 142856);
        Check.due("call 511", d.out(142657), 142657);
        Check.throwing("call 512", () -> d.out(142656), Check.IOOBE);
        ListDesk e = new ListDesk();
        for (int i = 1; i <= 128; i++) {
            boolean right = i % 3 > 0;
            Check.due("feed", e.feed(right ? 0x286F757420352931L : 0x282863617220312FL, 8), 8);
            Check.due("load", Check.load(e), right ? 0 : Check.IAE);
            Check.throwing("run", () -> e.run(3), right ? 0 : Check.ISE);
            Check.due("look", e.look(3), right ? 1 : 0);
        }
    }

    public static void main(String[] args) {
        newObject();
        feedOneToEight();
        feedHowMany();
        feedTouchesNothing();
        loadUsesUp();
        loadBeginsAnew();
        loadForgets();
        loadWrong();
        place();
        run();
        status();
        look();
        out();
        ways();
        waysRefused();
        manyCalls();
        Check.end("PromisesTest");
    }
}
