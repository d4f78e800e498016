/** The example of README.md answers what is written there. */
public final class ReadmeTest {
    private static void feed(ListDesk desk, String text) {
        for (int i = 0; i < text.length(); i += 8) {
            int n = Math.min(8, text.length() - i);
            long bytes = 0;
            for (int j = 0; j < n; j++) {
                bytes = bytes << 8 | text.charAt(i + j);
            }
            desk.feed(bytes, n);
        }
    }

    private static void example() {
        ListDesk desk = new ListDesk();
        feed(desk, "(letrec((f(lambda(n)(out n)(if n(f(- n 1))nil))))(cons(f 2)7))");
        desk.load();
        for (int i = 0; i < 10 && desk.status() == 2; i++) {
            desk.run(10);
        }
        Check.due("status", desk.status(), 1);
        Check.due("ints put out", desk.look(3), 3);
        for (int k = 0; k < 3; k++) {
            Check.due("out " + k, desk.out(k), 2 - k);
        }
        Check.due("the value's kind", desk.kind(1), 2);
        Check.due("its car's kind", desk.kind(2), 1);
        Check.due("its cdr", desk.number(3), 7);
    }

    public static void main(String[] args) {
        example();
        Check.end("ReadmeTest");
    }
}
