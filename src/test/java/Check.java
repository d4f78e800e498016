/** What the tests share: texts are fed whole, and every answer that is not due is printed. */
final class Check {
    static final int IAE = 1;
    static final int ISE = 2;
    static final int IOOBE = 3;

    interface Call {
        int answer();
    }

    private static final long LIMIT_MILLIS = 300000;

    private static int wrong;
    private static String sentence = "";

    /* A call that never ends is a failure too. */
    static {
        Thread watch = new Thread(Check::endLate);
        watch.setDaemon(true);
        watch.start();
    }

    private Check() {
    }

    private static void endLate() {
        try {
            Thread.sleep(LIMIT_MILLIS);
        } catch (InterruptedException e) {
            return;
        }
        System.out.println(sentence + "the test does not end");
        Runtime.getRuntime().halt(1);
    }

    /** The document's sentence that the answers from here on are due by. */
    static void sentence(String words) {
        sentence = "\"" + words + "\": ";
    }

    static void due(String what, long got, long want) {
        if (got != want) {
            wrong++;
            if (wrong <= 50) {
                System.out.println(sentence + what + ": " + got + ", due is " + want);
            }
        }
    }

    /** Which of the face's exceptions a call throws, exactly of that class; 0 is none. */
    static int thrown(Call call) {
        try {
            call.answer();
            return 0;
        } catch (RuntimeException e) {
            return e.getClass() == IllegalArgumentException.class ? IAE
                    : e.getClass() == IllegalStateException.class ? ISE
                    : e.getClass() == IndexOutOfBoundsException.class ? IOOBE : 99;
        }
    }

    static void throwing(String what, Call call, int want) {
        due(what + " throws (1 IAE, 2 ISE, 3 IOOBE)", thrown(call), want);
    }

    static long packed(String part) {
        long bytes = 0;
        for (int j = 0; j < part.length(); j++) {
            bytes = bytes << 8 | part.charAt(j);
        }
        return bytes;
    }

    static void feed(ListDesk d, String text) {
        for (int i = 0; i < text.length(); i += 8) {
            String part = text.substring(i, Math.min(i + 8, text.length()));
            due("feed " + part, d.feed(packed(part), part.length()), i + part.length());
        }
    }

    static int load(ListDesk d) {
        return thrown(() -> {
            d.load();
            return 0;
        });
    }

    static void right(ListDesk d, String text) {
        feed(d, text);
        due("load " + text, load(d), 0);
        due("place of " + text, d.place(), -1);
        due("status of " + text, d.status(), 2);
    }

    static void wrongAt(ListDesk d, String text, int place) {
        feed(d, text);
        due("load " + text, load(d), IAE);
        due("place of " + text, d.place(), place);
        due("status of " + text, d.status(), 0);
    }

    /** A program run with all the fuel that 100 calls can give: its status. */
    static ListDesk ran(String text, int status) {
        ListDesk d = new ListDesk();
        right(d, text);
        for (int i = 0; i < 100 && d.status() == 2; i++) {
            d.run(2000);
        }
        due("status behind " + text, d.status(), status);
        return d;
    }

    static void value(String text, int want) {
        ListDesk d = kind(text, 0);
        if (d.status() == 1) {
            due("value of " + text, d.number(1), want);
        }
    }

    static ListDesk kind(String text, int want) {
        ListDesk d = ran(text, 1);
        if (d.status() == 1) {
            due("kind of " + text, d.kind(1), want);
        }
        return d;
    }

    static void objects(String text, int want) {
        due("objects of " + text, ran(text, 1).look(1), want);
    }

    static void puts(String text, int... want) {
        ListDesk d = ran(text, 1);
        due("put out by " + text, d.look(3), want.length);
        for (int k = 0; k < want.length && k < d.look(3); k++) {
            due("out " + k + " of " + text, d.out(k), want[k]);
        }
    }

    static void stops(String text, int status, int place) {
        due("place of " + text, ran(text, status).place(), place);
    }

    static void looks(String what, ListDesk d, int begun, int objects, int waiting, int put) {
        due(what + ": begun", d.look(0), begun);
        due(what + ": objects", d.look(1), objects);
        due(what + ": waiting", d.look(2), waiting);
        due(what + ": put out", d.look(3), put);
    }

    /** The model lets calls at the end nest, so it needs a deep stack of Java's own. */
    static void deep(Runnable test) throws InterruptedException {
        Thread t = new Thread(null, test, "deep", 1L << 30);
        t.setUncaughtExceptionHandler((thread, e) -> {
            e.printStackTrace();
            due("an exception in the test", 1, 0);
        });
        t.start();
        t.join();
    }

    static void end(String name) {
        System.out.println(name + ": " + (wrong == 0 ? "all answers are as due" : wrong + " wrong"));
        System.exit(wrong == 0 ? 0 : 1);
    }
}
