import com.sun.management.ThreadMXBean;
import java.lang.management.ManagementFactory;

/** "All memory is rows made once": calls on an object that stands make nothing new. */
public final class RoomTest {
    private static final ThreadMXBean THREADS = (ThreadMXBean) ManagementFactory.getThreadMXBean();
    private static final String PAIRS = "(letrec((f(lambda(n)(out n)(cons n n)(f(+ n 1)))))(f 0))";
    private static final String FUNCTIONS = "(letrec((f(lambda(a)(let((b(lambda()a)))(set! a(b))(f a)))))(f 7))";
    private static final String DEEP = "(letrec((f(lambda(n)(if n(not(f(- n 1)))0))))(f 59))";

    private static long made() {
        return THREADS.getCurrentThreadAllocatedBytes();
    }

    /** 450 calls or so, of every kind that does not throw. */
    private static void use(ListDesk d) {
        for (int i = 0; i < 3; i++) {
            Check.feed(d, i == 0 ? PAIRS : i == 1 ? FUNCTIONS : DEEP);
            d.load();
            for (int n = 0; n < 60 && d.status() == 2; n++) {
                d.run(400);
            }
            for (int k = Math.max(0, d.look(3) - 200); k < d.look(3); k += 4) {
                d.out(k);
            }
            d.place();
            d.look(0);
        }
        Check.due("the last one is through", d.kind(1), 0);
        Check.due("with its value", d.number(1), 1);
    }

    public static void main(String[] args) {
        use(new ListDesk());
        long start = made();
        ListDesk d = new ListDesk();
        long stands = made();
        use(d);
        long used = made();
        Check.due("a new object takes a megabyte at most: " + (stands - start), stands - start < 1 << 20 ? 1 : 0, 1);
        // Some of it is what this test itself makes, for the texts that it feeds.
        Check.due("calls make next to nothing: " + (used - stands), used - stands < 1 << 16 ? 1 : 0, 1);
        Check.end("RoomTest");
    }
}
