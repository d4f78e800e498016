/** A small language of lists and functions, compiled to orders of a stack machine that runs on fuel. */
public final class ListDesk {
    private static final int TAPE_LIMIT = 250;
    private static final int FEED_LIMIT = 8;
    private static final int FUEL_LIMIT = 2000;
    private static final int LIST_LIMIT = 20;
    private static final int DIGIT_LIMIT = 9;
    private static final int VARIABLE_LIMIT = 4;
    private static final int WAITING_LIMIT = 60;
    private static final int OBJECT_LIMIT = 2000;
    private static final int OUTPUT_KEPT = 200;
    private static final int LETTERS = 26;

    /* A lambda has nine bytes, (lambda(), before there can be another one. */
    private static final int LAMBDA_LIMIT = TAPE_LIMIT / 9 + 1;
    /* No byte of a text brings more than two orders; the program's end brings one more. */
    private static final int ORDER_LIMIT = 2 * TAPE_LIMIT + 2;
    /* A list has at most five values on the stack at once, and lists are at most 20 deep. */
    private static final int FRAME_LIMIT = 5 * LIST_LIMIT + VARIABLE_LIMIT + 1;
    /* Far above what 2,000 expressions, with all calls that wait behind them, can need. */
    private static final int ORDERS_A_RUN = 1000000;

    private static final int NO_PROGRAM = 0;
    private static final int THROUGH = 1;
    private static final int GOES_ON = 2;
    private static final int BAD_VALUES = 3;
    private static final int TOO_MANY_WAIT = 4;
    private static final int TOO_MANY_OBJECTS = 5;

    private static final int NOWHERE = -1;

    private final Tape tape;
    private final Reader reader;
    private final Machine machine;

    public ListDesk() {
        Code code = new Code();
        Names names = new Names();
        Functions functions = new Functions();
        tape = new Tape();
        reader = new Reader(tape, code, names, functions);
        machine = new Machine(code, names, functions);
    }

    public int feed(long bytes, int n) throws IllegalArgumentException, IllegalStateException {
        if (n < 1 || n > FEED_LIMIT) {
            throw new IllegalArgumentException("one to eight bytes can be fed at once");
        }
        if (!tape.hasRoomFor(n)) {
            throw new IllegalStateException("the tape has no room for these bytes");
        }
        return tape.append(bytes, n);
    }

    public void load() throws IllegalArgumentException {
        machine.clear();
        reader.readProgram();
        machine.begin();
    }

    public int place() {
        return machine.status == NO_PROGRAM ? reader.wrongAt : machine.faultAt;
    }

    public int run(int fuel) throws IllegalArgumentException, IllegalStateException {
        if (fuel < 1 || fuel > FUEL_LIMIT) {
            throw new IllegalArgumentException("fuel is 1 to 2,000");
        }
        if (machine.status != GOES_ON) {
            throw new IllegalStateException("there is no program that goes on");
        }
        return machine.goOn(fuel);
    }

    public int status() {
        return machine.status;
    }

    public int look(int what) throws IllegalArgumentException {
        switch (what) {
            case 0:
                return machine.begun;
            case 1:
                return machine.heap.made;
            case 2:
                return machine.waiting;
            case 3:
                return machine.output.total;
            default:
                throw new IllegalArgumentException("there is nothing such to look at");
        }
    }

    public int out(int k) throws IndexOutOfBoundsException {
        if (!machine.output.has(k)) {
            throw new IndexOutOfBoundsException("no such int is kept");
        }
        return machine.output.at(k);
    }

    public int kind(int way) throws IllegalArgumentException, IllegalStateException {
        checkWay(way);
        long part = machine.part(way);
        return part == Value.NONE ? -1 : Value.tag(part);
    }

    public int number(int way) throws IllegalArgumentException, IllegalStateException {
        checkWay(way);
        long part = machine.part(way);
        return Value.tag(part) == Value.INT ? Value.body(part) : 0;
    }

    private void checkWay(int way) {
        if (way < 1) {
            throw new IllegalArgumentException("a way is at least 1");
        }
        if (machine.status != THROUGH) {
            throw new IllegalStateException("there is no program that is through");
        }
    }

    /** Rows that no index can break: outside of a row nothing is written, and 0 is read. */
    private static final class Rows {
        static int get(int[] row, int i) {
            return i >= 0 && i < row.length ? row[i] : 0;
        }

        static void set(int[] row, int i, int x) {
            if (i >= 0 && i < row.length) {
                row[i] = x;
            }
        }

        static long get(long[] row, int i) {
            return i >= 0 && i < row.length ? row[i] : 0L;
        }

        static void set(long[] row, int i, long x) {
            if (i >= 0 && i < row.length) {
                row[i] = x;
            }
        }
    }

    /** A value in one long, its tag above its body, so that == is the language's own eq?. */
    private static final class Value {
        /* The first four are what kind answers. */
        static final int INT = 0;
        static final int EMPTY = 1;
        static final int PAIR = 2;
        static final int FUNCTION = 3;
        static final int BOX = 4;
        static final int NOTHING = 5;

        static final long ZERO = 0L;
        static final long NIL = (long) EMPTY << 32;
        static final long NONE = (long) NOTHING << 32;

        static long of(int tag, int body) {
            return (long) tag << 32 | (long) body & 0xFFFFFFFFL;
        }

        static int tag(long value) {
            return (int) (value >>> 32);
        }

        static int body(long value) {
            return (int) value;
        }

        static long truth(boolean holds) {
            return of(INT, holds ? 1 : 0);
        }
    }

    /** The words that may stand first in a list; those with an order are primitives. */
    private enum Word {
        LAMBDA("lambda", 0, 0),
        IF("if", 0, 0),
        LET("let", 0, 0),
        LETREC("letrec", 0, 0),
        SET("set!", 0, 0),
        BEGIN("begin", 0, 0),
        ADD("+", 2, Code.ADD),
        SUBTRACT("-", 2, Code.SUBTRACT),
        MULTIPLY("*", 2, Code.MULTIPLY),
        LESS("<", 2, Code.LESS),
        EQUAL("=", 2, Code.EQUAL),
        SAME("eq?", 2, Code.SAME),
        CONS("cons", 2, Code.CONS),
        CAR("car", 1, Code.CAR),
        CDR("cdr", 1, Code.CDR),
        IS_PAIR("pair?", 1, Code.IS_PAIR),
        IS_NULL("null?", 1, Code.IS_NULL),
        NOT("not", 1, Code.NOT),
        OUT("out", 1, Code.OUT);

        private static final Word[] ALL = values();

        private final String text;
        private final int operands;
        private final int order;

        Word(String text, int operands, int order) {
            this.text = text;
            this.operands = operands;
            this.order = order;
        }
    }

    /** The bytes that were fed, and where in them the reader stands. */
    private static final class Tape {
        private static final int END = -1;

        private final int[] bytes;
        private int fed;
        private int length;
        private int at;

        Tape() {
            bytes = new int[TAPE_LIMIT];
        }

        boolean hasRoomFor(int n) {
            return fed + n <= TAPE_LIMIT;
        }

        int append(long more, int n) {
            for (int i = n - 1; i >= 0; i--) {
                Rows.set(bytes, fed, (int) (more >>> 8 * i) & 255);
                fed++;
            }
            return fed;
        }

        /** What was fed becomes the text to read; the tape is empty for the next one. */
        void useUp() {
            length = fed;
            fed = 0;
            at = 0;
        }

        int byteAt(int i) {
            return i >= 0 && i < length && i < bytes.length ? bytes[i] : END;
        }

        int skipBlanks() {
            while (at < length && byteAt(at) == ' ') {
                at++;
            }
            return at;
        }

        int nextByte() {
            return byteAt(skipBlanks());
        }

        boolean isAtEnd() {
            return nextByte() == END;
        }

        boolean isAtNumber() {
            return isDigit(byteAt(at)) || byteAt(at) == '-' && isDigit(byteAt(at + 1));
        }

        boolean isAtWord(String text) {
            for (int i = 0; i < text.length(); i++) {
                if (byteAt(at + i) != text.charAt(i)) {
                    return false;
                }
            }
            return endsWord(byteAt(at + text.length()));
        }

        /** The number of the letter that is the whole word here, or -1. */
        int letter() {
            int c = byteAt(at);
            return c >= 'a' && c <= 'z' && endsWord(byteAt(at + 1)) ? c - 'a' : -1;
        }

        static boolean endsWord(int c) {
            return c == END || c == ' ' || c == '(' || c == ')';
        }

        static boolean isDigit(int c) {
            return c >= '0' && c <= '9';
        }
    }

    /** The orders of a program, each with an operand and the byte of its expression. */
    private static final class Code {
        /* These begin an expression and cost fuel. */
        static final int BEGIN = 1;
        static final int NUMBER = 2;
        static final int NIL = 3;
        static final int FETCH = 4;
        static final int LAMBDA = 5;
        static final int LETREC = 6;
        static final int LAST_THAT_COSTS = LETREC;

        static final int END = 7;
        static final int POP = 8;
        static final int JUMP = 9;
        static final int JUMP_IF_ZERO = 10;
        static final int BIND = 11;
        static final int STORE = 12;
        static final int LEAVE = 13;
        static final int CALL = 14;
        static final int CALL_AT_END = 15;
        static final int RETURN = 16;
        static final int LAST_OF_WAYS = RETURN;

        static final int CAR = 17;
        static final int CDR = 18;
        static final int IS_PAIR = 19;
        static final int IS_NULL = 20;
        static final int NOT = 21;
        static final int OUT = 22;
        static final int LAST_OF_ONE = OUT;

        static final int SAME = 23;
        static final int CONS = 24;
        static final int ADD = 25;
        static final int SUBTRACT = 26;
        static final int MULTIPLY = 27;
        static final int LESS = 28;
        static final int EQUAL = 29;

        private final int[] order;
        private final int[] operand;
        private final int[] place;
        private int size;

        Code() {
            order = new int[ORDER_LIMIT];
            operand = new int[ORDER_LIMIT];
            place = new int[ORDER_LIMIT];
        }

        void clear() {
            size = 0;
        }

        int add(int newOrder, int newOperand, int newPlace) {
            int i = size;
            Rows.set(order, i, newOrder);
            Rows.set(operand, i, newOperand);
            Rows.set(place, i, newPlace);
            size++;
            return i;
        }

        void jumpToHere(int i) {
            Rows.set(operand, i, size);
        }

        int orderAt(int i) {
            return Rows.get(order, i);
        }

        /** Only when a body is read to its end is it known which of its calls stand there. */
        void markCallsAtEnd() {
            for (int i = 0; i < size; i++) {
                if (orderAt(i) == CALL && leadsToReturn(i + 1)) {
                    Rows.set(order, i, CALL_AT_END);
                }
            }
        }

        private boolean leadsToReturn(int from) {
            int i = from;
            for (int steps = 0; steps < size; steps++) {
                int here = orderAt(i);
                if (here == JUMP) {
                    i = Rows.get(operand, i);
                } else if (here == LEAVE) {
                    i++;
                } else {
                    return here == RETURN;
                }
            }
            return false;
        }
    }

    /** The variables of a program: each binding of a letter is one of its own. */
    private static final class Names {
        private final int[] letter;
        private final int[] slot;
        private final int[] level;
        private final boolean[] boxed;
        private int count;

        private final int[] inForce;
        private int inForceCount;

        /* Letters that are read, of lists that are open, before they are bound. */
        private final int[] pending;
        private int pendingCount;

        Names() {
            letter = new int[TAPE_LIMIT];
            slot = new int[TAPE_LIMIT];
            level = new int[TAPE_LIMIT];
            boxed = new boolean[TAPE_LIMIT];
            inForce = new int[TAPE_LIMIT];
            pending = new int[TAPE_LIMIT];
        }

        void clear() {
            count = 0;
            inForceCount = 0;
            pendingCount = 0;
        }

        void addPending(int newLetter) {
            Rows.set(pending, pendingCount, newLetter);
            pendingCount++;
        }

        boolean isPending(int from, int wanted) {
            for (int i = from; i < pendingCount; i++) {
                if (Rows.get(pending, i) == wanted) {
                    return true;
                }
            }
            return false;
        }

        /** Binds the pending letters to slots side by side: how many there are. */
        int bindPending(int from, int firstSlot, int newLevel) {
            int n = pendingCount - from;
            for (int i = 0; i < n; i++) {
                Rows.set(letter, count, Rows.get(pending, from + i));
                Rows.set(slot, count, firstSlot + i);
                Rows.set(level, count, newLevel);
                setBoxed(count, false);
                Rows.set(inForce, inForceCount, count);
                inForceCount++;
                count++;
            }
            pendingCount = from;
            return n;
        }

        void release(int n) {
            inForceCount -= n;
        }

        /** The variable that a letter means here, or -1. */
        int innermost(int wanted) {
            for (int i = inForceCount - 1; i >= 0; i--) {
                int variable = Rows.get(inForce, i);
                if (Rows.get(letter, variable) == wanted) {
                    return variable;
                }
            }
            return -1;
        }

        int slotOf(int variable) {
            return Rows.get(slot, variable);
        }

        int levelOf(int variable) {
            return Rows.get(level, variable);
        }

        boolean isBoxed(int variable) {
            return variable >= 0 && variable < boxed.length && boxed[variable];
        }

        void setBoxed(int variable, boolean how) {
            if (variable >= 0 && variable < boxed.length) {
                boxed[variable] = how;
            }
        }
    }

    /**
     * The lambdas of a program. A function finds a variable at a source: a slot of its own, or,
     * below 0, one of the values that it took along when it was made (-1 is the first of them).
     */
    private static final class Functions {
        private final int[] entry;
        private final int[] after;
        private final int[] parameters;
        private final int[] firstParameter;
        private final int[] takenCount;
        private final int[] taken;
        private final int[] takenSource;
        private int count;

        private final int[] open;
        private int level;

        Functions() {
            entry = new int[LAMBDA_LIMIT];
            after = new int[LAMBDA_LIMIT];
            parameters = new int[LAMBDA_LIMIT];
            firstParameter = new int[LAMBDA_LIMIT];
            takenCount = new int[LAMBDA_LIMIT];
            taken = new int[LAMBDA_LIMIT * LETTERS];
            takenSource = new int[LAMBDA_LIMIT * LETTERS];
            open = new int[LIST_LIMIT + 1];
        }

        void clear() {
            count = 0;
            level = 0;
        }

        void enter(int newEntry, int newParameters, int newFirstParameter) {
            Rows.set(entry, count, newEntry);
            Rows.set(parameters, count, newParameters);
            Rows.set(firstParameter, count, newFirstParameter);
            Rows.set(takenCount, count, 0);
            level++;
            Rows.set(open, level, count);
            count++;
        }

        void leave(int newAfter) {
            Rows.set(after, Rows.get(open, level), newAfter);
            level--;
        }

        /** The source of a variable here; all functions between its home and here take it along. */
        int reach(int variable, int home, int slot) {
            int source = slot;
            for (int i = home + 1; i <= level; i++) {
                source = -1 - take(Rows.get(open, i), variable, source);
            }
            return source;
        }

        private int take(int function, int variable, int source) {
            int row = function * LETTERS;
            int n = Rows.get(takenCount, function);
            for (int i = 0; i < n; i++) {
                if (Rows.get(taken, row + i) == variable) {
                    return i;
                }
            }
            Rows.set(taken, row + n, variable);
            Rows.set(takenSource, row + n, source);
            Rows.set(takenCount, function, n + 1);
            return n;
        }

        int entryOf(int function) {
            return Rows.get(entry, function);
        }

        int afterOf(int function) {
            return Rows.get(after, function);
        }

        int parametersOf(int function) {
            return Rows.get(parameters, function);
        }

        int firstParameterOf(int function) {
            return Rows.get(firstParameter, function);
        }

        int takenBy(int function) {
            return Rows.get(takenCount, function);
        }

        int sourceOf(int function, int i) {
            return Rows.get(takenSource, function * LETTERS + i);
        }
    }

    /** Reads a text once from the left, checks it, and writes its orders. */
    private static final class Reader {
        private final Tape tape;
        private final Code code;
        private final Names names;
        private final Functions functions;
        /* How many values stand in the frame of the function that is read, as it will run. */
        private int height;
        private int wrongAt;

        Reader(Tape tape, Code code, Names names, Functions functions) {
            this.tape = tape;
            this.code = code;
            this.names = names;
            this.functions = functions;
            wrongAt = NOWHERE;
        }

        void readProgram() {
            tape.useUp();
            code.clear();
            names.clear();
            functions.clear();
            height = 0;
            wrongAt = NOWHERE;
            expression(0);
            for (int n = 0; n < TAPE_LIMIT && !tape.isAtEnd(); n++) {
                forget();
                expression(0);
            }
            code.add(Code.END, 0, NOWHERE);
            code.markCallsAtEnd();
        }

        private void refuse(int at) {
            wrongAt = at;
            throw new IllegalArgumentException("the text is wrong");
        }

        private void expression(int depth) {
            int at = tape.skipBlanks();
            if (tape.nextByte() == '(') {
                list(at, depth + 1);
            } else if (tape.isAtNumber()) {
                value(Code.NUMBER, readNumber(), at);
            } else if (tape.isAtWord("nil")) {
                tape.at += 3;
                value(Code.NIL, 0, at);
            } else {
                variableValue();
            }
        }

        private void value(int order, int operand, int at) {
            code.add(order, operand, at);
            height++;
        }

        private int readNumber() {
            int sign = 1;
            if (tape.nextByte() == '-') {
                sign = -1;
                tape.at++;
            }
            int digits = 0;
            int size = 0;
            while (digits < DIGIT_LIMIT && Tape.isDigit(tape.byteAt(tape.at))) {
                size = size * 10 + tape.byteAt(tape.at) - '0';
                digits++;
                tape.at++;
            }
            if (!Tape.endsWord(tape.byteAt(tape.at))) {
                refuse(tape.at);
            }
            return sign * size;
        }

        private void variableValue() {
            int at = tape.skipBlanks();
            int variable = boundVariable();
            int source = functions.reach(variable, names.levelOf(variable), names.slotOf(variable));
            value(Code.FETCH, source, at);
        }

        private int boundVariable() {
            int at = tape.skipBlanks();
            int letter = tape.letter();
            int variable = letter < 0 ? -1 : names.innermost(letter);
            if (variable < 0) {
                refuse(at);
            }
            tape.at++;
            return variable;
        }

        private void list(int at, int depth) {
            if (depth > LIST_LIMIT) {
                refuse(at);
            }
            tape.at++;
            tape.skipBlanks();
            Word word = headWord();
            if (word == null) {
                call(at, depth);
            } else {
                tape.at += word.text.length();
                form(word, at, depth);
            }
            bracket(')');
        }

        private Word headWord() {
            for (int i = 0; i < Word.ALL.length; i++) {
                if (tape.isAtWord(Word.ALL[i].text)) {
                    return Word.ALL[i];
                }
            }
            return null;
        }

        private void form(Word word, int at, int depth) {
            switch (word) {
                case LAMBDA:
                    lambda(at, depth);
                    break;
                case IF:
                    choice(at, depth);
                    break;
                case LET:
                    let(at, depth);
                    break;
                case LETREC:
                    letrec(at, depth);
                    break;
                case SET:
                    change(at, depth);
                    break;
                case BEGIN:
                    code.add(Code.BEGIN, 0, at);
                    body(depth);
                    break;
                default:
                    primitive(word, at, depth);
                    break;
            }
        }

        private void bracket(int wanted) {
            if (tape.nextByte() != wanted) {
                refuse(tape.at);
            }
            tape.at++;
        }

        private void body(int depth) {
            expression(depth);
            for (int n = 0; n < TAPE_LIMIT && tape.nextByte() != ')'; n++) {
                forget();
                expression(depth);
            }
        }

        private void forget() {
            code.add(Code.POP, 0, NOWHERE);
            height--;
        }

        private void newLetter(int from) {
            int at = tape.skipBlanks();
            int letter = tape.letter();
            if (letter < 0 || names.isPending(from, letter)) {
                refuse(at);
            }
            tape.at++;
            names.addPending(letter);
        }

        private void lambda(int at, int depth) {
            int from = names.pendingCount;
            bracket('(');
            for (int n = 0; n < VARIABLE_LIMIT && tape.nextByte() != ')'; n++) {
                newLetter(from);
            }
            bracket(')');
            int outerHeight = height;
            code.add(Code.LAMBDA, functions.count, at);
            functions.enter(code.size, names.pendingCount - from, names.count);
            height = names.bindPending(from, 0, functions.level);
            int n = height;
            body(depth);
            code.add(Code.RETURN, 0, NOWHERE);
            names.release(n);
            functions.leave(code.size);
            height = outerHeight + 1;
        }

        private void choice(int at, int depth) {
            code.add(Code.BEGIN, 0, at);
            expression(depth);
            int test = code.add(Code.JUMP_IF_ZERO, 0, at);
            height--;
            expression(depth);
            int over = code.add(Code.JUMP, 0, at);
            height--;
            code.jumpToHere(test);
            expression(depth);
            code.jumpToHere(over);
        }

        private void let(int at, int depth) {
            code.add(Code.BEGIN, 0, at);
            int from = names.pendingCount;
            int firstSlot = height;
            bracket('(');
            newVariable(from, depth);
            for (int n = 1; n < VARIABLE_LIMIT && tape.nextByte() != ')'; n++) {
                newVariable(from, depth);
            }
            bracket(')');
            int first = names.count;
            int n = names.bindPending(from, firstSlot, functions.level);
            for (int i = 0; i < n; i++) {
                code.add(Code.BIND, first + i, at);
            }
            body(depth);
            leave(n);
        }

        private void newVariable(int from, int depth) {
            bracket('(');
            newLetter(from);
            expression(depth);
            bracket(')');
        }

        private void letrec(int at, int depth) {
            bracket('(');
            bracket('(');
            int from = names.pendingCount;
            newLetter(from);
            int variable = names.count;
            names.bindPending(from, height, functions.level);
            value(Code.LETREC, 0, at);
            int lambdaAt = tape.skipBlanks();
            int lambdaCode = code.size;
            /* What is wrong inside is told first: whether it is a lambda is looked at when it is read. */
            expression(depth);
            if (code.orderAt(lambdaCode) != Code.LAMBDA) {
                refuse(lambdaAt);
            }
            bracket(')');
            bracket(')');
            code.add(Code.STORE, names.slotOf(variable), at);
            forget();
            body(depth);
            leave(1);
        }

        private void leave(int n) {
            names.release(n);
            code.add(Code.LEAVE, n, NOWHERE);
            height -= n;
        }

        private void change(int at, int depth) {
            code.add(Code.BEGIN, 0, at);
            int variable = boundVariable();
            names.setBoxed(variable, true);
            int source = functions.reach(variable, names.levelOf(variable), names.slotOf(variable));
            expression(depth);
            code.add(Code.STORE, source, at);
        }

        private void primitive(Word word, int at, int depth) {
            code.add(Code.BEGIN, 0, at);
            for (int i = 0; i < word.operands; i++) {
                expression(depth);
            }
            code.add(word.order, 0, at);
            height -= word.operands - 1;
        }

        private void call(int at, int depth) {
            code.add(Code.BEGIN, 0, at);
            if (tape.nextByte() == '(') {
                expression(depth);
            } else {
                variableValue();
            }
            int n = 0;
            while (n < VARIABLE_LIMIT && tape.nextByte() != ')') {
                expression(depth);
                n++;
            }
            code.add(Code.CALL, n, at);
            height -= n;
        }
    }

    /** The objects of a program: none is ever given back, for there are at most 2,000. */
    private static final class Heap {
        private final long[] first;
        private final long[] second;
        private final long[] taken;
        private int made;
        private int takenCount;

        Heap() {
            first = new long[OBJECT_LIMIT];
            second = new long[OBJECT_LIMIT];
            /* A function takes along at most one variable for each letter. */
            taken = new long[OBJECT_LIMIT * LETTERS];
        }

        void clear() {
            made = 0;
            takenCount = 0;
        }

        /** A new pair, box, or function (whose values to take along come next), or NONE. */
        long make(int tag, long a, long b) {
            if (made >= OBJECT_LIMIT) {
                return Value.NONE;
            }
            int i = made;
            Rows.set(first, i, a);
            Rows.set(second, i, b);
            made++;
            return Value.of(tag, i);
        }

        void take(long value) {
            Rows.set(taken, takenCount, value);
            takenCount++;
        }

        long car(long pair) {
            return Rows.get(first, Value.body(pair));
        }

        long cdr(long pair) {
            return Rows.get(second, Value.body(pair));
        }

        int lambdaOf(long function) {
            return (int) Rows.get(first, Value.body(function));
        }

        long takenBy(long function, int i) {
            return Rows.get(taken, (int) Rows.get(second, Value.body(function)) + i);
        }

        long unboxed(long value) {
            return Value.tag(value) == Value.BOX ? Rows.get(first, Value.body(value)) : value;
        }

        void store(long box, long value) {
            if (Value.tag(box) == Value.BOX) {
                Rows.set(first, Value.body(box), value);
            }
        }
    }

    /** The ints that were put out, of which the latest are kept in a ring. */
    private static final class Output {
        private final int[] kept;
        private int total;

        Output() {
            kept = new int[OUTPUT_KEPT];
        }

        void clear() {
            total = 0;
        }

        void add(int x) {
            Rows.set(kept, total % OUTPUT_KEPT, x);
            total++;
        }

        boolean has(int k) {
            return k >= 0 && k < total && k >= total - OUTPUT_KEPT;
        }

        int at(int k) {
            return Rows.get(kept, k % OUTPUT_KEPT);
        }
    }

    /**
     * The stack machine. A frame is the function that runs, its arguments, the variables of its
     * lets, and values that are not used yet; base is the slot behind the function.
     */
    private static final class Machine {
        private final Code code;
        private final Names names;
        private final Functions functions;
        private final Heap heap;
        private final Output output;

        private final long[] stack;
        private final int[] nextBehind;
        private final int[] baseBehind;
        private int top;
        private int base;
        private int next;
        private int waiting;

        private int begun;
        private int status;
        private int faultAt;

        Machine(Code code, Names names, Functions functions) {
            this.code = code;
            this.names = names;
            this.functions = functions;
            heap = new Heap();
            output = new Output();
            stack = new long[(WAITING_LIMIT + 1) * FRAME_LIMIT];
            nextBehind = new int[WAITING_LIMIT];
            baseBehind = new int[WAITING_LIMIT];
            status = NO_PROGRAM;
            faultAt = NOWHERE;
        }

        void clear() {
            heap.clear();
            output.clear();
            top = 0;
            base = 0;
            next = 0;
            waiting = 0;
            begun = 0;
            status = NO_PROGRAM;
            faultAt = NOWHERE;
        }

        void begin() {
            status = GOES_ON;
        }

        /** Free orders go on when the fuel is used up: only the next expression is not begun. */
        int goOn(int fuel) {
            int left = fuel;
            for (int n = 0; n < ORDERS_A_RUN && status == GOES_ON; n++) {
                int order = code.orderAt(next);
                if (order <= Code.LAST_THAT_COSTS) {
                    if (left == 0) {
                        return status;
                    }
                    left--;
                    begun++;
                }
                int operand = Rows.get(code.operand, next);
                int at = Rows.get(code.place, next);
                next++;
                if (order <= Code.LAST_THAT_COSTS) {
                    beginExpression(order, operand, at);
                } else if (order <= Code.LAST_OF_WAYS) {
                    obey(order, operand, at);
                } else if (order <= Code.LAST_OF_ONE) {
                    primitiveOfOne(order, at);
                } else {
                    primitiveOfTwo(order, at);
                }
            }
            return status;
        }

        private void beginExpression(int order, int operand, int at) {
            switch (order) {
                case Code.NUMBER:
                    push(Value.of(Value.INT, operand));
                    break;
                case Code.NIL:
                    push(Value.NIL);
                    break;
                case Code.FETCH:
                    push(heap.unboxed(find(operand)));
                    break;
                case Code.LAMBDA:
                    makeFunction(operand, at);
                    break;
                case Code.LETREC:
                    pushObject(heap.make(Value.BOX, Value.NIL, Value.NIL), at);
                    break;
                default:
                    break;
            }
        }

        private void obey(int order, int operand, int at) {
            switch (order) {
                case Code.END:
                    status = THROUGH;
                    break;
                case Code.POP:
                    pop();
                    break;
                case Code.JUMP:
                    next = operand;
                    break;
                case Code.JUMP_IF_ZERO:
                    next = pop() == Value.ZERO ? operand : next;
                    break;
                case Code.BIND:
                    bind(operand, at);
                    break;
                case Code.STORE:
                    heap.store(find(operand), inStack(top - 1));
                    break;
                case Code.LEAVE:
                    dropTo(top - 1 - operand);
                    break;
                case Code.CALL:
                    call(operand, false, at);
                    break;
                case Code.CALL_AT_END:
                    call(operand, true, at);
                    break;
                case Code.RETURN:
                    goBack();
                    break;
                default:
                    break;
            }
        }

        private void stop(int newStatus, int at) {
            status = newStatus;
            faultAt = at;
        }

        private long inStack(int i) {
            return Rows.get(stack, i);
        }

        private void push(long value) {
            Rows.set(stack, top, value);
            top++;
        }

        private long pop() {
            top--;
            return inStack(top);
        }

        /** Takes the result off, then all values from there on, and puts the result there. */
        private void dropTo(int newTop) {
            long result = inStack(top - 1);
            top = newTop;
            push(result);
        }

        private void pushObject(long object, int at) {
            if (object == Value.NONE) {
                stop(TOO_MANY_OBJECTS, at);
            } else {
                push(object);
            }
        }

        /** What stands at a source: the variable's value, or the box that has it. */
        private long find(int source) {
            return source >= 0 ? inStack(base + source) : heap.takenBy(inStack(base - 1), -1 - source);
        }

        private void makeFunction(int lambda, int at) {
            long function = heap.make(Value.FUNCTION, lambda, heap.takenCount);
            if (function == Value.NONE) {
                stop(TOO_MANY_OBJECTS, at);
                return;
            }
            int n = functions.takenBy(lambda);
            for (int i = 0; i < n; i++) {
                heap.take(find(functions.sourceOf(lambda, i)));
            }
            push(function);
            next = functions.afterOf(lambda);
        }

        private void bind(int variable, int at) {
            if (!names.isBoxed(variable)) {
                return;
            }
            int i = base + names.slotOf(variable);
            long box = heap.make(Value.BOX, inStack(i), Value.NIL);
            if (box == Value.NONE) {
                stop(TOO_MANY_OBJECTS, at);
                return;
            }
            Rows.set(stack, i, box);
        }

        private void call(int n, boolean atEnd, int at) {
            long function = inStack(top - n - 1);
            int lambda = heap.lambdaOf(function);
            if (Value.tag(function) != Value.FUNCTION || functions.parametersOf(lambda) != n) {
                stop(BAD_VALUES, at);
                return;
            }
            if (atEnd) {
                replaceFrame(n);
            } else if (waiting < WAITING_LIMIT) {
                addFrame(n);
            } else {
                stop(TOO_MANY_WAIT, at);
                return;
            }
            next = functions.entryOf(lambda);
            int first = functions.firstParameterOf(lambda);
            for (int i = 0; i < n && status == GOES_ON; i++) {
                bind(first + i, at);
            }
        }

        private void replaceFrame(int n) {
            int from = top - n - 1;
            for (int i = 0; i <= n; i++) {
                Rows.set(stack, base - 1 + i, inStack(from + i));
            }
            top = base + n;
        }

        private void addFrame(int n) {
            Rows.set(nextBehind, waiting, next);
            Rows.set(baseBehind, waiting, base);
            waiting++;
            base = top - n;
        }

        private void goBack() {
            dropTo(base - 1);
            waiting--;
            next = Rows.get(nextBehind, waiting);
            base = Rows.get(baseBehind, waiting);
        }

        private void primitiveOfOne(int order, int at) {
            long value = pop();
            switch (order) {
                case Code.IS_PAIR:
                    push(Value.truth(Value.tag(value) == Value.PAIR));
                    break;
                case Code.IS_NULL:
                    push(Value.truth(value == Value.NIL));
                    break;
                case Code.NOT:
                    push(Value.truth(value == Value.ZERO));
                    break;
                case Code.OUT:
                    putOut(value, at);
                    break;
                default:
                    takeApart(order, value, at);
                    break;
            }
        }

        private void putOut(long value, int at) {
            if (Value.tag(value) != Value.INT) {
                stop(BAD_VALUES, at);
                return;
            }
            output.add(Value.body(value));
            push(Value.NIL);
        }

        private void takeApart(int order, long value, int at) {
            if (Value.tag(value) != Value.PAIR) {
                stop(BAD_VALUES, at);
                return;
            }
            push(order == Code.CAR ? heap.car(value) : heap.cdr(value));
        }

        private void primitiveOfTwo(int order, int at) {
            long right = pop();
            long left = pop();
            if (order == Code.SAME) {
                push(Value.truth(left == right));
            } else if (order == Code.CONS) {
                pushObject(heap.make(Value.PAIR, left, right), at);
            } else if (Value.tag(left) != Value.INT || Value.tag(right) != Value.INT) {
                stop(BAD_VALUES, at);
            } else {
                push(Value.of(Value.INT, reckon(order, Value.body(left), Value.body(right))));
            }
        }

        private static int reckon(int order, int left, int right) {
            switch (order) {
                case Code.ADD:
                    return left + right;
                case Code.SUBTRACT:
                    return left - right;
                case Code.MULTIPLY:
                    return left * right;
                case Code.LESS:
                    return left < right ? 1 : 0;
                default:
                    return left == right ? 1 : 0;
            }
        }

        /** The part of the program's value at a way, or NONE. */
        long part(int way) {
            long value = inStack(top - 1);
            int bit = 30;
            while (bit > 0 && way >>> bit == 0) {
                bit--;
            }
            for (int i = bit - 1; i >= 0; i--) {
                if (Value.tag(value) != Value.PAIR) {
                    return Value.NONE;
                }
                value = (way >>> i & 1) == 0 ? heap.car(value) : heap.cdr(value);
            }
            return value;
        }
    }
}
