/** What the document promises, promise by promise, with answers worked out by hand from its words. */
public final class PromiseTests {
    private static final int WORD = RuneFlow.WORD, BREAK = RuneFlow.BREAK, LABEL = RuneFlow.LABEL, CODE = RuneFlow.CODE, MATH = RuneFlow.MATH, END = RuneFlow.END;
    private static final int NUMBER = RuneFlow.NUMBER, NAME = RuneFlow.NAME, BLOCK = RuneFlow.BLOCK, ADD = RuneFlow.ADD, SUB = RuneFlow.SUB, MUL = RuneFlow.MUL;
    private static final int LESS = RuneFlow.LESS, JOIN = RuneFlow.JOIN, IF = RuneFlow.IF, LET = RuneFlow.LET, FUNC = RuneFlow.FUNC, CALL = RuneFlow.CALL;
    private static final int SET = RuneFlow.SET, SHOW = RuneFlow.SHOW, HEAD = RuneFlow.HEAD, STEP = RuneFlow.STEP, LATE = RuneFlow.LATE, NOW = RuneFlow.NOW;
    private static final int AT = RuneFlow.AT, PAGE = RuneFlow.PAGE, LAST = RuneFlow.LAST, COUNT = RuneFlow.COUNT, MEASURE = RuneFlow.MEASURE;
    private static final int IMPORT = RuneFlow.IMPORT, PAIR = RuneFlow.PAIR, PICK = RuneFlow.PICK;
    private static final int TOKEN = RuneFlow.TOKEN, OPEN_END = RuneFlow.OPEN_END, KIND = RuneFlow.KIND, UNKNOWN = RuneFlow.UNKNOWN, DEEP = RuneFlow.DEEP;
    private static final int LONG = RuneFlow.LONG, PLACE = RuneFlow.PLACE, CIRCLE = RuneFlow.CIRCLE;
    private static final int NOTHING = 20003, WRONG = 20004, UNNAMED = 20005;

    private static int checks = 0;
    private static int wrong = 0;

    private static void due(String what, long got, long want) {
        checks++;
        if (got != want) {
            wrong++;
            System.out.println(what + ": answered " + got + ", due is " + want);
        }
    }

    private static void due(String what, boolean got, boolean want) {
        due(what, got ? 1 : 0, want ? 1 : 0);
    }

    /** A call that has to throw. */
    private interface Call {
        void go();
    }

    private static void refused(String what, Class<?> with, Call call) {
        checks++;
        try {
            call.go();
        } catch (RuntimeException thrown) {
            if (thrown.getClass() != with) {
                wrong++;
                System.out.println(what + ": threw " + thrown);
            }
            return;
        }
        wrong++;
        System.out.println(what + ": threw nothing");
    }

    /** Tokens are told as a kind and a number, one behind the other. */
    private static RuneFlow doc(int... tokens) {
        RuneFlow flow = new RuneFlow();
        add(flow, 0, tokens);
        return flow;
    }

    private static void add(RuneFlow flow, int file, int... tokens) {
        int size = 0;
        while (flow.token(file, size) != RuneFlow.NONE) {
            size++;
        }
        for (int i = 0; i < tokens.length; i += 2) {
            flow.put(file, size + i / 2, tokens[i], tokens[i + 1]);
        }
    }

    private static void clear(RuneFlow flow, int file) {
        while (flow.token(file, 0) != RuneFlow.NONE) {
            flow.cut(file, 0);
        }
    }

    private static int[] together(int[]... rows) {
        int length = 0;
        for (int[] row : rows) {
            length += row.length;
        }
        int[] all = new int[length];
        int at = 0;
        for (int[] row : rows) {
            System.arraycopy(row, 0, all, at, row.length);
            at += row.length;
        }
        return all;
    }

    private static int[] times(int times, int... tokens) {
        int[] all = new int[times * tokens.length];
        for (int i = 0; i < all.length; i++) {
            all[i] = tokens[i % tokens.length];
        }
        return all;
    }

    private static void words(String what, RuneFlow flow, int... numbers) {
        due(what + ", laid", flow.laid(), numbers.length);
        for (int i = 0; i < numbers.length && i < flow.laid(); i++) {
            due(what + ", thing " + i, flow.thing(i, 0), numbers[i]);
        }
    }

    private static void faults(String what, RuneFlow flow, int... codes) {
        due(what + ", faults", flow.faults(), codes.length);
        for (int i = 0; i < codes.length && i < flow.faults(); i++) {
            due(what + ", fault " + i, flow.fault(i), codes[i]);
        }
    }

    /** Compiles, and holds the numbers that were laid and the faults against what is due. */
    private static void lays(String what, RuneFlow flow, int... numbers) {
        flow.compile();
        words(what, flow, numbers);
        faults(what, flow);
        due(what + ", as anew", flow.isAsAnew(), true);
    }

    private static void fails(String what, RuneFlow flow, int... codes) {
        flow.compile();
        faults(what, flow, codes);
        due(what + ", as anew", flow.isAsAnew(), true);
    }

    /** The value of an expression, by the name 9. */
    private static void value(String what, int want, int... expression) {
        RuneFlow flow = doc(together(new int[] {CODE, 0, LET, 9}, expression));
        flow.compile();
        due(what, flow.valueOf(9), want);
        faults(what, flow);
    }

    private static int at(int code, int place) {
        return 100000 * code + 100 * place;
    }

    private static void thing(String what, RuneFlow flow, int thing, int... want) {
        for (int i = 0; i < want.length; i++) {
            due(what + ", thing(" + thing + ", " + i + ")", flow.thing(thing, i), want[i]);
        }
    }

    public static void main(String[] arguments) {
        newObject();
        puts();
        cuts();
        tokens();
        pages();
        compiles();
        reading();
        endsInReading();
        numbers();
        names();
        functions();
        callFaults();
        contents();
        doubledContents();
        settings();
        rules();
        rulesInRules();
        laying();
        headings();
        counting();
        lates();
        deeps();
        longs();
        questions();
        imports();
        measures();
        memory();
        memoryKeys();
        memoryOfQuestions();
        memoryBounds();
        memoryNesting();
        memoryOfFiles();
        fresh();
        things();
        manyFaults();
        answers();
        valuesOf();
        System.out.println(checks + " checks, " + wrong + " wrong");
        if (wrong != 0) {
            System.exit(1);
        }
    }

    // ---- promises 1 to 5

    private static void newObject() {
        RuneFlow flow = new RuneFlow();
        due("new laid", flow.laid(), 0);
        due("new faults", flow.faults(), 0);
        due("new ran", flow.ran(), 0);
        due("new taken", flow.taken(), 0);
        due("new kept", flow.kept(), 0);
        due("new settled", flow.isSettled(), false);
        due("new as anew", flow.isAsAnew(), false);
        due("new token", flow.token(2, 0), RuneFlow.NONE);
        due("new answer", flow.answer(LAST, 0, 0), 0);
        due("new value", flow.valueOf(9), UNNAMED);
        due("as anew again", flow.isAsAnew(), false);
        due("asking compiles nothing", flow.isSettled(), false);
    }

    private static void puts() {
        RuneFlow flow = new RuneFlow();
        due("put first", flow.put(1, 0, WORD, 5), 1);
        due("put ahead", flow.put(1, 0, PICK, 99), 2);
        due("put between", flow.put(1, 1, END, 0), 3);
        due("put order 0", flow.token(1, 0), 3199);
        due("put order 1", flow.token(1, 1), 500);
        due("put order 2", flow.token(1, 2), 5);
        due("put other file", flow.token(0, 0), RuneFlow.NONE);
        refused("put file -1", IndexOutOfBoundsException.class, () -> flow.put(-1, 0, 0, 0));
        refused("put file 3", IndexOutOfBoundsException.class, () -> flow.put(3, 0, 0, 0));
        refused("put place -1", IndexOutOfBoundsException.class, () -> flow.put(1, -1, 0, 0));
        refused("put place 4", IndexOutOfBoundsException.class, () -> flow.put(1, 4, 0, 0));
        refused("put place far", IndexOutOfBoundsException.class, () -> flow.put(1, Integer.MAX_VALUE, 0, 0));
        refused("put kind -1", IllegalArgumentException.class, () -> flow.put(1, 0, -1, 0));
        refused("put kind 32", IllegalArgumentException.class, () -> flow.put(1, 0, 32, 0));
        refused("put number -1", IllegalArgumentException.class, () -> flow.put(1, 0, 0, -1));
        refused("put number 100", IllegalArgumentException.class, () -> flow.put(1, 0, 0, 100));
        refused("put place ahead of kind", IndexOutOfBoundsException.class, () -> flow.put(1, 9, 32, 100));
        due("put refused changes nothing", flow.token(1, 3), RuneFlow.NONE);
        for (int i = 3; i < 60; i++) {
            flow.put(1, i, WORD, i);
        }
        refused("put 61st", IllegalStateException.class, () -> flow.put(1, 60, WORD, 0));
        refused("put 61st ahead", IllegalStateException.class, () -> flow.put(1, 0, WORD, 0));
        refused("put kind ahead of full", IllegalArgumentException.class, () -> flow.put(1, 0, 32, 0));
        refused("put place ahead of full", IndexOutOfBoundsException.class, () -> flow.put(1, 61, 0, 0));
        due("put last", flow.token(1, 59), 59);
        due("put in another when full", flow.put(2, 0, WORD, 0), 1);
    }

    private static void cuts() {
        RuneFlow flow = doc(WORD, 1, BREAK, 2, PICK, 99);
        due("cut", flow.cut(0, 1), 102);
        due("cut moves", flow.token(0, 1), 3199);
        due("cut shortens", flow.token(0, 2), RuneFlow.NONE);
        refused("cut behind", IndexOutOfBoundsException.class, () -> flow.cut(0, 2));
        refused("cut -1", IndexOutOfBoundsException.class, () -> flow.cut(0, -1));
        refused("cut file 3", IndexOutOfBoundsException.class, () -> flow.cut(3, 0));
        refused("cut file -1", IndexOutOfBoundsException.class, () -> flow.cut(-1, 0));
        due("cut last", flow.cut(0, 1), 3199);
        due("cut first", flow.cut(0, 0), 1);
        refused("cut empty", IndexOutOfBoundsException.class, () -> flow.cut(0, 0));
    }

    private static void tokens() {
        RuneFlow flow = doc(SET, 45);
        due("token", flow.token(0, 0), 1845);
        due("token behind", flow.token(0, 1), RuneFlow.NONE);
        due("token far behind", flow.token(0, Integer.MAX_VALUE), RuneFlow.NONE);
        refused("token -1", IndexOutOfBoundsException.class, () -> flow.token(0, -1));
        refused("token file 3", IndexOutOfBoundsException.class, () -> flow.token(3, 0));
        refused("token file -1", IndexOutOfBoundsException.class, () -> flow.token(-1, 0));
    }

    private static void pages() {
        RuneFlow flow = doc(times(5, WORD, 1));
        due("setPage", flow.setPage(3, 1), 12);
        flow.compile();
        thing("page 3 by 1", flow, 4, 1, 1, 1, 0, 1, 1);
        due("setPage again", flow.setPage(30, 10), 3);
        due("setPage ahead of compile", flow.thing(4, 2), 1);
        due("setPage as anew", flow.isAsAnew(), false);
        flow.compile();
        thing("page 30 by 10", flow, 4, 1, 1, 0, 0, 4, 1);
        refused("width 2", IllegalArgumentException.class, () -> flow.setPage(2, 4));
        refused("width 31", IllegalArgumentException.class, () -> flow.setPage(31, 4));
        refused("height 0", IllegalArgumentException.class, () -> flow.setPage(12, 0));
        refused("height 11", IllegalArgumentException.class, () -> flow.setPage(12, 11));
        due("setPage refused changes nothing", flow.setPage(12, 4), 30);
    }

    // ---- promises 6 to 8

    private static void compiles() {
        RuneFlow flow = new RuneFlow();
        due("compile nothing", flow.compile(), 1);
        due("nothing is settled", flow.isSettled(), true);
        due("nothing is as anew", flow.isAsAnew(), true);
        add(flow, 0, BREAK, 0);
        due("compile a break", flow.compile(), 1);
        add(flow, 0, WORD, 1);
        due("a put is not compiled", flow.laid(), 0);
        due("a put is not as anew", flow.isAsAnew(), false);
        due("compile a word", flow.compile(), 2);
        due("a word is settled", flow.isSettled(), true);
        due("a word is as anew", flow.isAsAnew(), true);
        add(flow, 1, WORD, 1);
        due("another file does not matter", flow.isAsAnew(), true);
        // each page that LAST tells makes one page more: 0, 1, 2, 3 are told, and 4 is not the same as 3
        RuneFlow growing = doc(CODE, 0, LET, 0, FUNC, 1, IF, 0, NAME, 1, BLOCK, 0, WORD, 1, BREAK, 0, CODE, 0, CALL, 0, NAME, 0, SUB, 0, NAME, 1, NUMBER, 1, END, 0,
            BLOCK, 0, WORD, 2, END, 0, CODE, 0, CALL, 0, NAME, 0, LAST, 0);
        growing.setPage(12, 1);
        due("growing rounds", growing.compile(), 4);
        due("growing is not settled", growing.isSettled(), false);
        due("growing laid", growing.laid(), 4);
        due("growing answer", growing.answer(LAST, 0, 0), 4);
        due("growing is as anew", growing.isAsAnew(), true);
        // only the faults differ
        RuneFlow faulty = doc(WORD, 1);
        faulty.compile();
        faulty.put(0, 0, END, 0);
        due("a fault is not as anew", faulty.isAsAnew(), false);
    }

    // ---- tokens and reading

    private static void reading() {
        lays("words, breaks, labels", doc(WORD, 7, BREAK, 0, LABEL, 3, WORD, 99), 7, 99);
        lays("numbers of tokens do not matter elsewhere", doc(CODE, 77, NUMBER, 5), 1005);
        fails("code kinds in a text", doc(NUMBER, 1, PICK, 0, WORD, 1), at(TOKEN, 0), at(TOKEN, 1));
        fails("other tokens in a formula", doc(MATH, 0, WORD, 1, BREAK, 0, LABEL, 0, MATH, 0, NUMBER, 0, WORD, 1, END, 0), at(TOKEN, 2), at(TOKEN, 3), at(TOKEN, 4), at(TOKEN, 5));
        RuneFlow flow = doc(MATH, 0, WORD, 1, BREAK, 0, CODE, 0, NUMBER, 3, WORD, 1, END, 0, WORD, 4);
        flow.compile();
        words("what is passed over in a formula is none of its signs", flow, 2003, 4);
        // a word where an expression is due is passed over, and the second part is read behind it
        RuneFlow broken = doc(CODE, 0, LET, 0, ADD, 0, WORD, 5, NUMBER, 1, WORD, 6);
        fails("word in code", broken, at(TOKEN, 3));
        due("broken part", broken.valueOf(0), WRONG);
        words("behind word in code", broken, 6);
        RuneFlow code = doc(CODE, 0, CODE, 0, NUMBER, 1, WORD, 6);
        fails("code in code", code, at(TOKEN, 1), at(TOKEN, 2));
        words("behind code in code", code, 6);
        lays("names and numbers by their remainders", doc(CODE, 0, LET, 17, NUMBER, 5, CODE, 0, NAME, 97), 1005);
    }

    private static void endsInReading() {
        RuneFlow flow = doc(WORD, 1, END, 0, WORD, 2);
        fails("END ahead of the end of the file", flow, at(TOKEN, 1));
        words("passed over", flow, 1, 2);
        flow = doc(CODE, 0, BLOCK, 0, WORD, 1, CODE, 0, ADD, 0, NUMBER, 1, END, 0, WORD, 2);
        fails("END for a part", flow, at(TOKEN, 6));
        words("END for a part ends the block", flow, 1, 2);
        flow = doc(CODE, 0, BLOCK, 0, CODE, 0, IF, 0, END, 0, WORD, 2);
        fails("END for three parts", flow, at(TOKEN, 4), at(TOKEN, 4), at(TOKEN, 4));
        words("END for three parts ends the block", flow, 2);
        flow = doc(MATH, 0, WORD, 1, CODE, 0, END, 0, WORD, 2);
        fails("END for the code of a formula", flow, at(TOKEN, 3));
        words("ends the formula", flow, 2001, 2);
        flow = doc(CODE, 0, END, 0, WORD, 3);
        fails("END for the code of the file", flow, at(TOKEN, 1), at(TOKEN, 1));
        words("is passed over then", flow, 3);
        fails("end of file for an expression", doc(WORD, 1, CODE, 0), at(OPEN_END, 2));
        fails("end of file for three parts", doc(CODE, 0, IF, 0), at(OPEN_END, 2), at(OPEN_END, 2), at(OPEN_END, 2));
        flow = doc(WORD, 1, CODE, 0, BLOCK, 0, WORD, 2, MATH, 0, WORD, 3);
        fails("end of file for a formula and a block", flow, at(OPEN_END, 6), at(OPEN_END, 6));
        words("they end there", flow, 1, 2, 2001);
        RuneFlow full = doc(together(times(59, WORD, 1), new int[] {CODE, 0}));
        fails("behind the 60th", full, at(OPEN_END, 60));
    }

    // ---- values and running

    private static void numbers() {
        value("NUMBER", 99, NUMBER, 99);
        value("ADD", 12, ADD, 0, NUMBER, 5, NUMBER, 7);
        value("SUB", -2, SUB, 0, NUMBER, 5, NUMBER, 7);
        value("MUL", 35, MUL, 0, NUMBER, 5, NUMBER, 7);
        value("LESS", 1, LESS, 0, NUMBER, 5, NUMBER, 7);
        value("not LESS", 0, LESS, 0, NUMBER, 7, NUMBER, 7);
        value("bound above", 9999, ADD, 0, NUMBER, 1, MUL, 0, NUMBER, 99, MUL, 0, NUMBER, 99, NUMBER, 99);
        value("bound below", -9999, SUB, 0, SUB, 0, NUMBER, 0, MUL, 0, NUMBER, 99, NUMBER, 99, MUL, 0, NUMBER, 99, NUMBER, 99);
        int[] lowest = {SUB, 0, SUB, 0, NUMBER, 0, MUL, 0, NUMBER, 99, NUMBER, 99, MUL, 0, NUMBER, 99, NUMBER, 99};
        value("the lowest number is one", -9998, together(new int[] {ADD, 0, NUMBER, 1}, lowest));
        value("and so is the highest", 9998, together(new int[] {ADD, 0, SUB, 0, NUMBER, 0, NUMBER, 1, SUB, 0, NUMBER, 0}, lowest));
        value("up to the bound", 9998, ADD, 0, MUL, 0, NUMBER, 99, NUMBER, 99, ADD, 0, NUMBER, 98, NUMBER, 99);
        value("IF", 1, IF, 0, NUMBER, 5, NUMBER, 1, NUMBER, 2);
        value("IF of less than 0", 1, IF, 0, SUB, 0, NUMBER, 0, NUMBER, 5, NUMBER, 1, NUMBER, 2);
        value("IF 0", 2, IF, 0, NUMBER, 0, NAME, 7, NUMBER, 2);
        value("LET in the branch that is not run", UNNAMED - 20005 + 4, IF, 0, NUMBER, 1, NUMBER, 4, LET, 9, NUMBER, 8);
        value("PICK 0", 1, PICK, 0, PAIR, 0, NUMBER, 1, NUMBER, 2);
        value("PICK 1", 2, PICK, 3, PAIR, 0, NUMBER, 1, NUMBER, 2);
        fails("ADD of a block", doc(CODE, 0, ADD, 0, NUMBER, 1, BLOCK, 0, END, 0), at(KIND, 1));
        fails("LESS of NOTHING", doc(CODE, 0, LESS, 0, LET, 1, NUMBER, 1, NUMBER, 1), at(KIND, 1));
        fails("WRONG is no fault of its own", doc(CODE, 0, ADD, 0, NAME, 1, BLOCK, 0, END, 0), at(UNKNOWN, 2));
        fails("IF of a function", doc(CODE, 0, IF, 0, FUNC, 0, NUMBER, 1, NAME, 1, NAME, 2), at(KIND, 1));
        fails("IF of WRONG", doc(CODE, 0, IF, 0, NAME, 3, NAME, 1, NAME, 2), at(UNKNOWN, 2));
        fails("PICK of a number", doc(CODE, 0, PICK, 0, NUMBER, 1), at(KIND, 1));
        fails("PICK of WRONG", doc(CODE, 0, PICK, 0, NAME, 1), at(UNKNOWN, 2));
        fails("a pair of WRONG is a pair", doc(CODE, 0, PICK, 0, PAIR, 0, NUMBER, 1, NAME, 1), at(UNKNOWN, 4));
    }

    private static void names() {
        fails("UNKNOWN", doc(CODE, 0, NAME, 4), at(UNKNOWN, 1));
        RuneFlow flow = doc(CODE, 0, LET, 1, NAME, 4, CODE, 0, NAME, 1);
        fails("a name of WRONG is known", flow, at(UNKNOWN, 2));
        due("value WRONG", flow.valueOf(1), WRONG);
        flow = doc(CODE, 0, LET, 1, LET, 2, NUMBER, 3);
        flow.compile();
        due("LET is NOTHING", flow.valueOf(1), NOTHING);
        due("LET in LET", flow.valueOf(2), 3);
        flow = doc(CODE, 0, LET, 1, NUMBER, 1, CODE, 0, BLOCK, 0, CODE, 0, LET, 1, NUMBER, 2, CODE, 0, NAME, 1, CODE, 0, LET, 2, NUMBER, 0, END, 0, CODE, 0, NAME, 1);
        lays("names hold to the end of their block", flow, 1002, 1001);
        due("not behind it", flow.valueOf(2), UNNAMED);
        due("and leave those around", flow.valueOf(1), 1);
        lays("names from around", doc(CODE, 0, LET, 1, NUMBER, 1, CODE, 0, BLOCK, 0, CODE, 0, NAME, 1, END, 0), 1001);
        flow = doc(MATH, 0, CODE, 0, LET, 1, NUMBER, 7, END, 0, CODE, 0, NAME, 1);
        lays("a formula is no block", flow, 2000, 1007);
        flow = doc(CODE, 0, ADD, 0, NUMBER, 1, PICK, 1, PAIR, 0, LET, 1, NUMBER, 6, NAME, 1);
        lays("from then on", flow, 1007);
    }

    private static void functions() {
        int[] addOne = {LET, 0, FUNC, 1, ADD, 0, NAME, 1, NUMBER, 1};
        lays("a call", doc(together(new int[] {CODE, 0}, addOne, new int[] {CODE, 0, CALL, 0, NAME, 0, NUMBER, 4})), 1005);
        lays("names of where it was made", doc(CODE, 0, LET, 2, NUMBER, 5, CODE, 0, LET, 0, FUNC, 1, ADD, 0, NAME, 1, NAME, 2, CODE, 0, LET, 2, NUMBER, 9,
            CODE, 0, CALL, 0, NAME, 0, NUMBER, 1), 1006);
        fails("not those of where it is called", doc(CODE, 0, LET, 0, FUNC, 1, NAME, 2, CODE, 0, LET, 2, NUMBER, 9, CODE, 0, CALL, 0, NAME, 0, NUMBER, 1), at(UNKNOWN, 3));
        RuneFlow flow = doc(CODE, 0, CALL, 0, FUNC, 1, LET, 2, NAME, 1, NUMBER, 1);
        lays("LET in a body", flow);
        due("ends with the body", flow.valueOf(2), UNNAMED);
        due("so does the parameter", flow.valueOf(1), UNNAMED);
        flow = doc(CODE, 0, CALL, 0, FUNC, 1, NUMBER, 3, LET, 2, NUMBER, 8);
        lays("LET in an argument", flow, 1003);
        due("is of the caller", flow.valueOf(2), 8);
        lays("functions made by functions", doc(CODE, 0, LET, 0, FUNC, 1, FUNC, 2, SUB, 0, NAME, 1, NAME, 2, CODE, 0, CALL, 0, CALL, 0, NAME, 0, NUMBER, 9, NUMBER, 4), 1005);
        lays("its own name", doc(CODE, 0, LET, 0, FUNC, 1, IF, 0, NAME, 1, ADD, 0, NAME, 1, CALL, 0, NAME, 0, SUB, 0, NAME, 1, NUMBER, 1, NUMBER, 0,
            CODE, 0, CALL, 0, NAME, 0, NUMBER, 3), 1006);
        // the LET's part is no FUNC here, so the function does not know the name
        fails("its own name by a FUNC alone", doc(CODE, 0, LET, 0, PICK, 0, PAIR, 0, FUNC, 1, NAME, 0, NUMBER, 1, CODE, 0, CALL, 0, NAME, 0, NUMBER, 1), at(UNKNOWN, 5));
        lays("a parameter of the LET's name", doc(CODE, 0, LET, 0, FUNC, 0, NAME, 0, CODE, 0, CALL, 0, NAME, 0, NUMBER, 2), 1002);
        lays("contents as arguments", doc(CODE, 0, CALL, 0, FUNC, 1, JOIN, 0, NAME, 1, NAME, 1, BLOCK, 0, WORD, 4, END, 0), 4, 4);
    }

    private static void callFaults() {
        fails("a call of a number", doc(CODE, 0, CALL, 0, NUMBER, 1, NAME, 2), at(KIND, 1));
        fails("a call of WRONG", doc(CODE, 0, CALL, 0, NAME, 1, NAME, 2), at(UNKNOWN, 2));
        RuneFlow flow = doc(CODE, 0, CALL, 0, FUNC, 1, NAME, 5, NAME, 2);
        fails("a call with WRONG", flow, at(UNKNOWN, 4));
        due("is not run", flow.ran(), 0);
        flow = doc(CODE, 0, LET, 2, CALL, 0, FUNC, 1, NAME, 1, LET, 3, NUMBER, 1);
        flow.compile();
        due("a call with NOTHING is run", flow.ran(), 1);
        due("with NOTHING", flow.valueOf(2), NOTHING);
        // f(n) calls f(n - 1), the one within 8 others is DEEP
        int[] down = {CODE, 0, LET, 0, FUNC, 1, IF, 0, NAME, 1, CALL, 0, NAME, 0, SUB, 0, NAME, 1, NUMBER, 1, NUMBER, 7};
        lays("eight calls are within the ninth", doc(together(down, new int[] {CODE, 0, CALL, 0, NAME, 0, NUMBER, 7})), 1007);
        flow = doc(together(down, new int[] {CODE, 0, CALL, 0, NAME, 0, NUMBER, 8}));
        fails("nine are not", flow, at(DEEP, 5));
        due("and eight were run in each round", flow.ran(), 8 * (flow.laid() == 0 ? 1 : 2));
        // an argument is not within its call
        flow = doc(together(new int[] {CODE, 0, LET, 0, FUNC, 1, NAME, 1, CODE, 0}, times(12, CALL, 0, NAME, 0), new int[] {NUMBER, 5}));
        lays("twelve calls as arguments", flow, 1005);
        flow = doc(CODE, 0, LET, 0, FUNC, 1, NAME, 5, CODE, 0, CALL, 0, NAME, 0, NUMBER, 1);
        fails("a fault in a body is where it stands", flow, at(UNKNOWN, 3));
    }

    private static void contents() {
        lays("a number", doc(CODE, 0, SUB, 0, NUMBER, 0, NUMBER, 3), 997);
        lays("a pair", doc(CODE, 0, PAIR, 0, NUMBER, 1, PAIR, 0, BLOCK, 0, WORD, 5, END, 0, NUMBER, 2), 1001, 5, 1002);
        lays("NOTHING", doc(CODE, 0, LET, 0, NUMBER, 1));
        lays("JOIN", doc(CODE, 0, JOIN, 0, BLOCK, 0, WORD, 5, WORD, 6, END, 0, NUMBER, 2), 5, 6, 1002);
        RuneFlow flow = doc(CODE, 0, FUNC, 1, NUMBER, 1);
        fails("a function", flow, at(KIND, 1));
        flow = doc(CODE, 0, LET, 0, JOIN, 0, BLOCK, 0, WORD, 5, END, 0, FUNC, 1, NUMBER, 1, CODE, 0, NAME, 0);
        fails("JOIN with a function", flow, at(KIND, 6));
        words("is content all the same", flow, 5);
        flow = doc(CODE, 0, JOIN, 0, FUNC, 1, NUMBER, 1, NAME, 2);
        fails("JOIN runs both parts first", flow, at(UNKNOWN, 4), at(KIND, 2));
        flow = doc(CODE, 0, PAIR, 0, FUNC, 1, NUMBER, 1, PAIR, 0, NUMBER, 1, FUNC, 2, NUMBER, 3);
        fails("functions in pairs", flow, at(KIND, 1), at(KIND, 1));
        words("and what else is in it", flow, 1001);
        flow = doc(CODE, 0, HEAD, 0, FUNC, 1, NUMBER, 1);
        fails("HEAD of a function", flow, at(KIND, 2));
        due("is a heading", flow.answer(COUNT, 0, 0), 1);
        flow = doc(CODE, 0, LET, 1, HEAD, 0, NAME, 5, CODE, 0, NAME, 1);
        fails("HEAD of WRONG", flow, at(UNKNOWN, 3));
        due("is content", flow.valueOf(1), 20000);
        fails("MEASURE of a function", doc(CODE, 0, LET, 0, MEASURE, 0, FUNC, 1, NUMBER, 1), at(KIND, 3));
        fails("a function in a formula", doc(MATH, 0, CODE, 0, FUNC, 1, NUMBER, 1, END, 0), at(KIND, 2));
        fails("a function by a LATE", doc(CODE, 0, LATE, 0, FUNC, 1, NUMBER, 1), at(KIND, 2));
        fails("a function by a name", doc(CODE, 0, LET, 0, FUNC, 1, NUMBER, 1, CODE, 0, NAME, 0), at(KIND, 5));
        fails("STEP of a block", doc(CODE, 0, STEP, 0, BLOCK, 0, END, 0), at(KIND, 1));
        fails("STEP of WRONG", doc(CODE, 0, STEP, 0, NAME, 0), at(UNKNOWN, 2));
        // twice the same, forty times: of nothing that is nothing
        lays("doubled emptiness", doc(together(new int[] {CODE, 0, LET, 0, BLOCK, 0, END, 0}, times(10, CODE, 0, LET, 0, JOIN, 0, NAME, 0, NAME, 0))));
        lays("doubled NOTHING", doc(together(new int[] {CODE, 0, LET, 0, LET, 1, NUMBER, 0}, times(10, CODE, 0, LET, 0, PAIR, 0, NAME, 0, NAME, 0), new int[] {CODE, 0, NAME, 0})));
    }

    /** Forty doublings: what is held once is told often, and can't be walked through. */
    private static void doubledContents() {
        int[] fourTimes = {CODE, 0, LET, 0, FUNC, 1, PAIR, 0, PAIR, 0, NAME, 1, NAME, 1, PAIR, 0, NAME, 1, NAME, 1};
        int[] often = together(new int[] {CODE, 0, LET, 3}, times(20, CALL, 0, NAME, 0));
        RuneFlow flow = doc(together(fourTimes, often, new int[] {LET, 4, NUMBER, 1, CODE, 0, PAIR, 0, NAME, 3, NUMBER, 1}));
        lays("a pair of nothing and a number", flow, 1001);
        flow = doc(together(fourTimes, often, new int[] {LET, 4, NUMBER, 1, CODE, 0, HEAD, 0, NAME, 3, WORD, 5}));
        lays("a heading of nothing", flow, 5);
        due("counts", flow.answer(COUNT, 0, 0), 1);
        flow = doc(together(fourTimes, often, new int[] {FUNC, 4, NUMBER, 1, CODE, 0, PAIR, 0, NAME, 3, NUMBER, 1}));
        flow.compile();
        due("functions, doubled", flow.faults(), 60);
        due("at the pair", flow.fault(59), at(KIND, 55));
        words("and the number", flow, 1001);
        flow = doc(together(fourTimes, often, new int[] {NUMBER, 1, CODE, 0, LET, 5, MEASURE, 0, NAME, 3}));
        flow.compile();
        due("numbers, doubled", flow.valueOf(5), 9999);
        flow = doc(together(fourTimes, new int[] {CODE, 0, LET, 3}, times(18, CALL, 0, NAME, 0), new int[] {BLOCK, 0, CODE, 0, SET, 0, NUMBER, 2, END, 0, CODE, 0, PAIR, 0, NAME, 3, NUMBER, 1}));
        lays("blocks of nothing, doubled", flow, 1001);
    }

    private static void settings() {
        RuneFlow flow = doc(WORD, 1, CODE, 0, SET, 0, NUMBER, 3, WORD, 2);
        flow.compile();
        thing("ahead of SET", flow, 0, 1, 1, 0, 0, 0, 1);
        thing("behind SET", flow, 1, 2, 3, 0, 0, 1, 3);
        flow = doc(CODE, 0, BLOCK, 0, CODE, 0, SET, 0, NUMBER, 2, WORD, 1, CODE, 0, BLOCK, 0, WORD, 2, END, 0, END, 0, WORD, 3);
        flow.compile();
        due("in the block", flow.thing(0, 5), 2);
        due("in a block within it", flow.thing(1, 5), 2);
        due("behind the block", flow.thing(2, 5), 1);
        flow = doc(CODE, 0, PICK, 1, PAIR, 0, SET, 0, NUMBER, 2, BLOCK, 0, WORD, 1, END, 0, WORD, 2);
        flow.compile();
        due("not for its own item", flow.thing(0, 5), 1);
        due("but for the next one", flow.thing(1, 5), 2);
        flow = doc(CODE, 0, SET, 0, NUMBER, 0, WORD, 1, CODE, 0, SET, 2, NUMBER, 99, WORD, 2);
        flow.compile();
        due("at least 1", flow.thing(0, 1), 1);
        due("at most 3", flow.thing(1, 1), 3);
        flow = doc(CODE, 0, SET, 1, NUMBER, 99, BREAK, 0, WORD, 1, CODE, 0, SET, 1, SUB, 0, NUMBER, 0, NUMBER, 1, BREAK, 0, WORD, 2);
        flow.compile();
        due("INDENT at most 3", flow.thing(0, 4), 3);
        due("INDENT at least 0", flow.thing(1, 4), 0);
        flow = doc(CODE, 0, LET, 1, SET, 0, NUMBER, 2);
        flow.compile();
        due("SET is NOTHING", flow.valueOf(1), NOTHING);
        // what is made in a block keeps what is set there, wherever it is realized
        flow = doc(CODE, 0, LET, 1, BLOCK, 0, CODE, 0, SET, 0, NUMBER, 2, WORD, 1, END, 0, CODE, 0, SET, 0, NUMBER, 3, CODE, 0, NAME, 1, WORD, 2);
        flow.compile();
        due("set inside", flow.thing(0, 5), 2);
        due("set around", flow.thing(1, 5), 3);
        // a block that is run first does not take the SET of the CODE around it
        flow = doc(CODE, 0, JOIN, 0, BLOCK, 0, WORD, 1, END, 0, SET, 0, NUMBER, 2, WORD, 2);
        flow.compile();
        due("SET behind a block, for its own item", flow.thing(0, 5), 1);
        due("SET behind a block, for the next one", flow.thing(1, 5), 2);
        fails("SET of a block", doc(CODE, 0, SET, 0, BLOCK, 0, END, 0), at(KIND, 1));
        fails("SET of WRONG", doc(CODE, 0, SET, 0, NAME, 0), at(UNKNOWN, 2));
        fails("SHOW of a number", doc(CODE, 0, SHOW, 0, NUMBER, 0), at(KIND, 1));
        fails("SHOW of WRONG", doc(CODE, 0, SHOW, 0, NAME, 0), at(UNKNOWN, 2));
        fails("SET in a body", doc(CODE, 0, CALL, 0, FUNC, 1, SET, 0, NAME, 9, NUMBER, 1), at(PLACE, 3));
        fails("SHOW in a LATE", doc(CODE, 0, LATE, 0, SHOW, 0, NAME, 9), at(PLACE, 2));
        fails("SET in a formula", doc(MATH, 0, CODE, 0, IF, 0, NUMBER, 1, SET, 0, NAME, 9, NUMBER, 0, END, 0), at(PLACE, 4));
        lays("SET in a block in a body", doc(CODE, 0, CALL, 0, FUNC, 1, BLOCK, 0, CODE, 0, SET, 0, NUMBER, 2, WORD, 1, END, 0, NUMBER, 1), 1);
        lays("SET in a block in a formula", doc(MATH, 0, CODE, 0, BLOCK, 0, CODE, 0, SET, 0, NUMBER, 2, WORD, 1, END, 0, END, 0), 2002);
    }

    private static void rules() {
        int[] twice = {FUNC, 1, JOIN, 0, NAME, 1, NAME, 1};
        lays("a rule for words", doc(together(new int[] {WORD, 3, CODE, 0, SHOW, 5}, twice, new int[] {WORD, 3, WORD, 4})), 3, 3, 3, 4);
        lays("a rule for formulas", doc(together(new int[] {CODE, 0, SHOW, 1}, twice, new int[] {MATH, 0, WORD, 1, END, 0, WORD, 4})), 2001, 2001, 4);
        lays("a rule for headings", doc(together(new int[] {CODE, 0, SHOW, 0}, twice, new int[] {CODE, 0, HEAD, 0, NUMBER, 6})), 1006, 1006);
        lays("a rule that shows nothing", doc(CODE, 0, SHOW, 5, FUNC, 1, LET, 1, NUMBER, 1, WORD, 3, WORD, 4), 4);
        // the number -998 is the word 2, and -1002 the word -2, which no SHOW tells
        lays("words by numbers", doc(CODE, 0, SHOW, 4, FUNC, 1, NUMBER, 7, CODE, 0, LET, 0, SUB, 0, NUMBER, 2, MUL, 0, NUMBER, 20, NUMBER, 50, CODE, 0, NAME, 0), 1007);
        lays("words below 0 are no headings", doc(CODE, 0, SHOW, 0, FUNC, 1, NUMBER, 7, CODE, 0, SUB, 0, SUB, 0, NUMBER, 0, NUMBER, 2, MUL, 0, NUMBER, 20, NUMBER, 50), -2);
        lays("not behind the block", doc(CODE, 0, BLOCK, 0, CODE, 0, SHOW, 5, FUNC, 1, NUMBER, 7, WORD, 3, END, 0, WORD, 3), 1007, 3);
        lays("of one block the last", doc(CODE, 0, SHOW, 5, FUNC, 1, NUMBER, 7, CODE, 0, SHOW, 5, FUNC, 1, NUMBER, 8, WORD, 3), 1008);
        lays("the innermost block", doc(CODE, 0, SHOW, 5, FUNC, 1, NUMBER, 7, CODE, 0, BLOCK, 0, CODE, 0, SHOW, 5, FUNC, 1, NUMBER, 8, WORD, 3, END, 0, WORD, 3), 1008, 1007);
        lays("with the names of where it was made", doc(CODE, 0, LET, 2, NUMBER, 5, CODE, 0, SHOW, 5, FUNC, 1, NAME, 2, CODE, 0, LET, 2, NUMBER, 6, WORD, 3), 1005);
        RuneFlow flow = doc(CODE, 0, LET, 2, SHOW, 5, FUNC, 1, NUMBER, 7);
        flow.compile();
        due("SHOW is NOTHING", flow.valueOf(2), NOTHING);
        // the content stands where the element was: its SIZE, its INDENT
        flow = doc(CODE, 0, SHOW, 5, FUNC, 1, BLOCK, 0, WORD, 8, END, 0, CODE, 0, SET, 0, NUMBER, 3, WORD, 3);
        flow.compile();
        thing("as it was to be realized", flow, 0, 8, 3, 0, 0, 0, 3);
        due("calls of rules are run", flow.ran(), 2);
        due("and not kept", flow.kept(), 0);
        flow = doc(CODE, 0, SHOW, 5, FUNC, 1, FUNC, 2, NUMBER, 1, WORD, 3);
        fails("a rule's function", flow, at(KIND, 1));
        flow = doc(CODE, 0, SHOW, 5, FUNC, 1, NAME, 7, WORD, 3);
        fails("a fault in a rule", flow, at(UNKNOWN, 3));
        due("shows nothing", flow.laid(), 0);
    }

    private static void rulesInRules() {
        // 3 becomes 4 and 3, 4 becomes 3 and 4: each SHOW once on a way
        RuneFlow flow = doc(CODE, 0, SHOW, 5, FUNC, 1, BLOCK, 0, WORD, 4, CODE, 0, NAME, 1, END, 0, CODE, 0, SHOW, 6, FUNC, 1, BLOCK, 0, WORD, 3, CODE, 0, NAME, 1, END, 0, WORD, 3);
        lays("used up on the way", flow, 3, 4, 3);
        // the rule around is used when the inner one is used up
        lays("the next rule around", doc(CODE, 0, SHOW, 5, FUNC, 1, BLOCK, 0, CODE, 0, NAME, 1, WORD, 8, END, 0,
            CODE, 0, SHOW, 5, FUNC, 1, BLOCK, 0, CODE, 0, NAME, 1, WORD, 9, END, 0, WORD, 3), 3, 8, 9);
        // the SHOW in the body is run again for each use, and is the same SHOW
        flow = doc(CODE, 0, LET, 0, FUNC, 2, BLOCK, 0, CODE, 0, SHOW, 5, FUNC, 1, BLOCK, 0, CODE, 0, CALL, 0, NAME, 0, NUMBER, 0, END, 0, WORD, 3, END, 0,
            CODE, 0, CALL, 0, NAME, 0, NUMBER, 0);
        lays("all rules of the same SHOW", flow, 3);
        // faults tell how many rules are used up on the way to what is realized
        flow = doc(CODE, 0, SHOW, 5, FUNC, 1, LATE, 0, NAME, 7, WORD, 3);
        fails("a fault below a rule", flow, at(UNKNOWN, 4) + 1);
        flow = doc(CODE, 0, SHOW, 6, FUNC, 1, NAME, 7, CODE, 0, SHOW, 5, FUNC, 1, BLOCK, 0, WORD, 4, CODE, 0, LATE, 0, NAME, 8, END, 0, WORD, 3, CODE, 0, LATE, 0, NAME, 9);
        fails("faults below rules", flow, at(UNKNOWN, 3) + 1, at(UNKNOWN, 11) + 1, at(UNKNOWN, 16));
    }

    // ---- realizing

    private static void laying() {
        RuneFlow flow = doc(times(13, WORD, 1));
        flow.compile();
        thing("twelve in a line", flow, 11, 1, 1, 0, 0, 11, 1);
        thing("the 13th", flow, 12, 1, 1, 0, 1, 0, 1);
        flow = doc(together(new int[] {CODE, 0, SET, 0, NUMBER, 3}, times(17, WORD, 2)));
        flow.compile();
        thing("four of three", flow, 3, 2, 3, 0, 0, 9, 3);
        thing("then a line", flow, 4, 2, 3, 0, 1, 0, 3);
        thing("then a page", flow, 16, 2, 3, 1, 0, 0, 3);
        due("two pages", flow.answer(LAST, 0, 0), 2);
        flow = doc(BREAK, 0, BREAK, 0, BREAK, 0, WORD, 1, BREAK, 0);
        flow.compile();
        thing("three breaks", flow, 0, 1, 1, 0, 3, 0, 1);
        due("an empty page does not count", flow.answer(LAST, 0, 0), 1);
        // wider than the page: there is no new line at the begin of one
        flow = doc(CODE, 0, SET, 1, NUMBER, 2, BREAK, 0, CODE, 0, SET, 0, NUMBER, 3, WORD, 1, WORD, 2);
        flow.setPage(4, 10);
        flow.compile();
        thing("too wide at INDENT", flow, 0, 1, 3, 0, 1, 2, 3);
        thing("too wide behind it", flow, 1, 2, 3, 0, 2, 2, 3);
        // the pen starts at 0, whatever INDENT is
        flow = doc(CODE, 0, SET, 1, NUMBER, 3, WORD, 1);
        flow.compile();
        thing("INDENT of the first line", flow, 0, 1, 1, 0, 0, 0, 1);
        flow = doc(WORD, 5, MATH, 0, WORD, 1, WORD, 1, CODE, 0, BLOCK, 0, WORD, 3, CODE, 0, SET, 0, NUMBER, 3, WORD, 3, END, 0, END, 0, WORD, 6);
        flow.compile();
        thing("a formula", flow, 1, 2006, 6, 0, 0, 1, 1);
        thing("behind it", flow, 2, 6, 1, 0, 0, 7, 1);
        flow = doc(CODE, 0, SET, 0, NUMBER, 2, MATH, 0, WORD, 1, CODE, 0, NUMBER, 4, END, 0);
        flow.compile();
        thing("a formula's width is its own", flow, 0, 2002, 2, 0, 0, 0, 2);
        flow = doc(MATH, 0, CODE, 0, STEP, 0, NUMBER, 5, CODE, 0, LATE, 0, NAME, 9, CODE, 0, HEAD, 0, NUMBER, 3, END, 0, LABEL, 1);
        lays("contents of a formula are only measured", flow, 2001);
        due("no STEP", flow.answer(AT, 1, 0), 0);
        due("no heading", flow.answer(COUNT, 0, 0), 0);
    }

    private static void headings() {
        RuneFlow flow = doc(WORD, 1, CODE, 0, HEAD, 0, BLOCK, 0, WORD, 2, WORD, 3, END, 0, WORD, 4);
        flow.compile();
        thing("ahead of a heading", flow, 0, 1, 1, 0, 0, 0, 1);
        thing("heading", flow, 1, 2, 1, 0, 1, 0, 1);
        thing("behind a heading", flow, 3, 4, 1, 0, 2, 0, 1);
        due("is counted", flow.answer(COUNT, 0, 0), 1);
        flow = doc(CODE, 0, SET, 1, NUMBER, 2, CODE, 0, HEAD, 0, NUMBER, 1, CODE, 0, HEAD, 0, NUMBER, 2, WORD, 3);
        flow.compile();
        thing("no line ahead of the first", flow, 0, 1001, 1, 0, 0, 0, 1);
        thing("nor of the second", flow, 1, 1002, 1, 0, 1, 2, 1);
        thing("but behind it", flow, 2, 3, 1, 0, 2, 2, 1);
        flow = doc(CODE, 0, HEAD, 0, HEAD, 0, NUMBER, 1, WORD, 2);
        flow.compile();
        due("heading in heading counts", flow.answer(COUNT, 0, 0), 2);
        thing("and has its lines", flow, 1, 2, 1, 0, 2, 0, 1);
    }

    private static void counting() {
        RuneFlow flow = doc(CODE, 0, STEP, 4, NUMBER, 5, LABEL, 12, CODE, 0, STEP, 1, SUB, 0, NUMBER, 0, NUMBER, 7, BREAK, 0, BREAK, 0, BREAK, 0, BREAK, 0, LABEL, 3, LABEL, 2, WORD, 1);
        flow.compile();
        due("counter at a label", flow.answer(AT, 2, 1), 5);
        due("other counter", flow.answer(AT, 2, 0), 0);
        due("counter later", flow.answer(AT, 3, 1), -2);
        due("the first label of its number", flow.answer(PAGE, 2, 0), 1);
        due("page later", flow.answer(PAGE, 3, 0), 2);
        due("no label", flow.answer(PAGE, 4, 0), 0);
        int[] much = {MUL, 0, NUMBER, 99, NUMBER, 99};
        flow = doc(together(new int[] {CODE, 0, STEP, 0}, much, new int[] {CODE, 0, STEP, 0}, much, new int[] {LABEL, 0, CODE, 0, STEP, 1, SUB, 0, NUMBER, 0}, much,
            new int[] {CODE, 0, STEP, 1, SUB, 0, NUMBER, 0}, much, new int[] {LABEL, 1}));
        flow.compile();
        due("bound of a counter above", flow.answer(AT, 0, 0), 9999);
        due("bound of a counter below", flow.answer(AT, 1, 1), -9999);
    }

    private static void lates() {
        lays("NOW", doc(CODE, 0, LATE, 0, NOW, 3, CODE, 0, STEP, 0, NUMBER, 5, CODE, 0, LATE, 0, NOW, 0), 1000, 1005);
        fails("NOW ahead of realizing", doc(CODE, 0, NOW, 1), at(PLACE, 1));
        lays("names as they were", doc(CODE, 0, LET, 1, NUMBER, 5, CODE, 0, LATE, 0, NAME, 1, CODE, 0, LET, 1, NUMBER, 6), 1005);
        fails("names that were not", doc(CODE, 0, LATE, 0, NAME, 1, CODE, 0, LET, 1, NUMBER, 6), at(UNKNOWN, 2));
        RuneFlow flow = doc(CODE, 0, LATE, 0, LET, 1, NUMBER, 5, CODE, 0, LATE, 0, NAME, 1);
        fails("a LET in a LATE ends with it", flow, at(UNKNOWN, 6));
        lays("LATE in LATE", doc(CODE, 0, LATE, 0, LATE, 0, LATE, 0, NUMBER, 4), 1004);
        lays("NOW in a rule", doc(CODE, 0, SHOW, 3, FUNC, 1, NOW, 0, WORD, 1, CODE, 0, STEP, 0, NUMBER, 5, WORD, 1), 1000, 1005);
        lays("nothing is run for a LATE that is not realized", doc(CODE, 0, LET, 1, LATE, 0, NAME, 9));
        // a LATE in a block is realized as is set there
        flow = doc(CODE, 0, BLOCK, 0, CODE, 0, SET, 0, NUMBER, 3, CODE, 0, LATE, 0, NUMBER, 1, END, 0);
        flow.compile();
        due("SIZE of a LATE", flow.thing(0, 1), 3);
    }

    private static void deeps() {
        lays("12 headings", doc(together(new int[] {CODE, 0}, times(12, HEAD, 0), new int[] {NUMBER, 5})), 1005);
        RuneFlow flow = doc(together(new int[] {CODE, 0}, times(13, HEAD, 0), new int[] {NUMBER, 5}));
        fails("13 headings", flow, at(DEEP, 13));
        due("the 13th has no content", flow.laid(), 0);
        due("but is counted", flow.answer(COUNT, 0, 0), 13);
        lays("12 LATEs", doc(together(new int[] {CODE, 0}, times(12, LATE, 0), new int[] {NUMBER, 5})), 1005);
        flow = doc(together(new int[] {CODE, 0}, times(13, LATE, 0), new int[] {NAME, 5}));
        fails("13 LATEs", flow, at(DEEP, 13));
        int[] rule = {CODE, 0, SHOW, 5, FUNC, 1, NAME, 9};
        flow = doc(together(rule, new int[] {CODE, 0}, times(12, HEAD, 0), new int[] {BLOCK, 0, WORD, 3, END, 0}));
        fails("a rule within 12 headings", flow, at(DEEP, 1));
        due("does not run", flow.ran(), 0);
        due("and lays nothing", flow.laid(), 0);
        flow = doc(together(new int[] {CODE, 0, SHOW, 5, FUNC, 1, BLOCK, 0, CODE, 0}, times(11, HEAD, 0), new int[] {BLOCK, 0, WORD, 4, CODE, 0, HEAD, 0, NUMBER, 1, END, 0, END, 0, WORD, 3}));
        fails("a heading within 11 headings and a rule", flow, at(DEEP, 19) + 1);
    }

    /** 300 and more were begun: a CODE, its expression and the words of its block are 2 and more. */
    private static void longs() {
        // f begins 4 + 56 in each call; CODE, CALL, NAME and NUMBER begin 4
        int[] wide = together(new int[] {CODE, 0, LET, 0, FUNC, 1, BLOCK, 0}, times(50, WORD, 1), new int[] {END, 0});
        RuneFlow flow = doc(wide);
        add(flow, 1, CODE, 0, LET, 0, IMPORT, 0);
        flow.compile();
        due("nothing was run", flow.ran(), 0);
        flow = new RuneFlow();
        add(flow, 1, wide);
        add(flow, 0, CODE, 0, LET, 0, IMPORT, 10);
        add(flow, 0, times(7, CODE, 0, CALL, 0, NAME, 0, NUMBER, 1));
        // file 0: CODE LET IMPORT, file 1: CODE LET FUNC are 6 begun; each call has 4 ahead and 51 in it
        // turns come at 10, 65, 120, 175, 230, 285, and the 7th at 340
        flow.compile();
        due("long, faults", flow.faults(), 2);
        due("long, at", flow.fault(0), 100000 * LONG + 100 * 28);
        due("long, the memory does not hide it", flow.taken(), 5 + 6);
        due("long, run once", flow.ran(), 1);
        due("long, of 300 words 200", flow.laid(), 200);
        due("long, at the 201st", flow.fault(1), 100000 * LONG);
    }

    private static void questions() {
        lays("LAST", doc(CODE, 0, LAST, 0), 1001);
        lays("COUNT", doc(CODE, 0, HEAD, 0, COUNT, 0), 1001);
        lays("PAGE", doc(CODE, 0, PAGE, 1, BREAK, 0, BREAK, 0, BREAK, 0, BREAK, 0, LABEL, 1), 1002);
        lays("AT", doc(CODE, 0, AT, 7, CODE, 0, STEP, 1, NUMBER, 8, LABEL, 2), 1008);
        lays("of labels that are not there", doc(CODE, 0, AT, 7, CODE, 0, PAGE, 3), 1000, 1000);
        RuneFlow flow = doc(CODE, 0, IF, 0, LESS, 0, LAST, 0, NUMBER, 1, BLOCK, 0, WORD, 1, END, 0, BLOCK, 0, END, 0);
        // there is a word only if there was none: it never settles
        due("to and fro", flow.compile(), 4);
        due("is not settled", flow.isSettled(), false);
        due("and ends without", flow.laid(), 0);
        flow = doc(CODE, 0, AT, 3, LABEL, 1, CODE, 0, STEP, 0, NUMBER, 1);
        due("a label at 0 settles", flow.compile(), 2);
    }

    private static void imports() {
        RuneFlow flow = doc(CODE, 0, IMPORT, 12, CODE, 0, IMPORT, 12);
        add(flow, 1, WORD, 9, CODE, 0, LET, 2, NUMBER, 5, CODE, 0, LET, 2, ADD, 0, NAME, 2, NUMBER, 1, CODE, 0, NAME, 8);
        flow.compile();
        words("the value at the end", flow, 1006, 1006);
        faults("a file is run once", flow, 100000 * UNKNOWN + 10000 + 100 * 10);
        flow = doc(CODE, 0, IMPORT, 25);
        fails("no name", flow, at(UNKNOWN, 1));
        flow = doc(CODE, 0, IMPORT, 3);
        fails("itself", flow, at(CIRCLE, 1));
        fails("itself by its remainder", doc(CODE, 0, IMPORT, 33), at(CIRCLE, 1));
        flow = doc(CODE, 0, LET, 1, NUMBER, 4, CODE, 0, LATE, 0, IMPORT, 1);
        lays("itself when it is realized", flow, 1004);
        flow = doc(WORD, 1, CODE, 0, LET, 7, IMPORT, 17, WORD, 2);
        add(flow, 1, CODE, 0, NAME, 0, CODE, 0, LET, 7, IMPORT, 27, CODE, 0, ADD, 0);
        add(flow, 2, CODE, 0, LET, 7, IMPORT, 18, CODE, 0, SET, 0, NUMBER, 2, CODE, 0, LET, 7, FUNC, 0, NAME, 0);
        fails("faults in the order of reading and running", flow, 210700, 210700, 410100, 820200);
        due("the value is there", flow.valueOf(7), 20001);
        // calls in a file are within none, and NOW looks at whether content is realized
        int[] down = {CODE, 0, LET, 0, FUNC, 1, IF, 0, NAME, 1, CALL, 0, NAME, 0, SUB, 0, NAME, 1, NUMBER, 1};
        flow = doc(together(down, new int[] {IMPORT, 15, CODE, 0, CALL, 0, NAME, 0, NUMBER, 7}));
        add(flow, 1, down);
        add(flow, 1, NUMBER, 6, CODE, 0, LET, 5, CALL, 0, NAME, 0, NUMBER, 7);
        lays("calls within none", flow, 1006);
        flow = doc(CODE, 0, STEP, 0, NUMBER, 3, CODE, 0, LATE, 0, IMPORT, 11);
        add(flow, 1, CODE, 0, LET, 1, NOW, 0);
        lays("NOW in an imported file", flow, 1003);
        flow.put(0, 0, CODE, 0);
        flow.put(0, 1, IMPORT, 11);
        fails("NOW in a file imported before", flow, 710200);
    }

    private static void measures() {
        value("words", 2, MEASURE, 0, BLOCK, 0, WORD, 1, WORD, 2, END, 0);
        value("number", 1, MEASURE, 0, NUMBER, 50);
        value("SIZE set in it", 7, MEASURE, 0, BLOCK, 0, WORD, 1, CODE, 0, SET, 0, NUMBER, 3, WORD, 2, CODE, 0, BLOCK, 0, WORD, 3, END, 0, END, 0);
        value("heading", 2, MEASURE, 0, BLOCK, 0, CODE, 0, SET, 0, NUMBER, 2, CODE, 0, HEAD, 0, NUMBER, 1, END, 0);
        value("formula", 3, MEASURE, 0, BLOCK, 0, CODE, 0, SET, 0, NUMBER, 2, MATH, 0, WORD, 1, WORD, 1, CODE, 0, NUMBER, 2, END, 0, END, 0);
        value("nothing else", 0, MEASURE, 0, BLOCK, 0, BREAK, 0, LABEL, 0, CODE, 0, STEP, 0, NUMBER, 5, CODE, 0, LATE, 0, NUMBER, 6, END, 0);
        value("pair", 2, MEASURE, 0, PAIR, 0, NUMBER, 1, NUMBER, 2);
        value("no rules", 1, MEASURE, 0, BLOCK, 0, CODE, 0, SHOW, 3, FUNC, 0, JOIN, 0, NAME, 0, NAME, 0, WORD, 1, END, 0);
        value("a SIZE around does not matter", 1, PICK, 1, PAIR, 0, SET, 0, NUMBER, 3, MEASURE, 0, NUMBER, 1);
        value("SET is for the next item", 4, MEASURE, 0, BLOCK, 0, CODE, 0, JOIN, 0, SET, 0, NUMBER, 3, BLOCK, 0, WORD, 1, END, 0, WORD, 1, END, 0);
        value("SET to 1 again", 4, MEASURE, 0, BLOCK, 0, CODE, 0, SET, 0, NUMBER, 3, WORD, 1, CODE, 0, SET, 0, NUMBER, 1, WORD, 1, END, 0);
        value("INDENT is no SIZE", 4, MEASURE, 0, BLOCK, 0, CODE, 0, SET, 0, NUMBER, 2, WORD, 1, CODE, 0, SET, 1, NUMBER, 3, WORD, 1, END, 0);
        int[] one = {BLOCK, 0, WORD, 1, END, 0};
        for (int size = 1; size <= 3; size++) {
            int[] set = {MEASURE, 0, BLOCK, 0, CODE, 0, SET, 0, NUMBER, size, CODE, 0};
            value("joined in SIZE " + size, 2 * size, together(set, new int[] {JOIN, 0}, one, one, new int[] {END, 0}));
            value("paired in SIZE " + size, 2 * size, together(set, new int[] {PAIR, 0}, one, one, new int[] {END, 0}));
            value("heading in SIZE " + size, size, together(set, new int[] {HEAD, 0}, one, new int[] {END, 0}));
            value("block in block in SIZE " + size, size, together(set, new int[] {BLOCK, 0, CODE, 0}, one, new int[] {END, 0, END, 0}));
        }
        // what has no width has none in the place of what had some in the round before
        RuneFlow flow = doc(CODE, 0, IF, 0, LAST, 0, BLOCK, 0, BREAK, 0, LABEL, 0, END, 0, BLOCK, 0, WORD, 1, WORD, 2, END, 0,
            CODE, 0, LET, 9, MEASURE, 0, BLOCK, 0, CODE, 0, SET, 0, NUMBER, 3, BREAK, 0, LABEL, 1, BREAK, 0, CODE, 0, STEP, 0, NUMBER, 1, END, 0, WORD, 1);
        flow.compile();
        due("nothing in SIZE 3", flow.valueOf(9), 0);
        flow.put(0, 0, WORD, 1);
        flow.put(0, 0, WORD, 1);
        flow.compile();
        due("nothing in SIZE 3 behind words", flow.valueOf(9), 0);
        for (int size = 2; size <= 3; size++) {
            RuneFlow other = doc(times(60, WORD, 1));
            other.compile();
            clear(other, 0);
            add(other, 0, CODE, 0, LET, 9, MEASURE, 0, BLOCK, 0, CODE, 0, SET, 0, NUMBER, size, BREAK, 0, LABEL, 1, BREAK, 0, CODE, 0, LATE, 0, NUMBER, 1, END, 0);
            other.compile();
            due("nothing in SIZE " + size, other.valueOf(9), 0);
        }
        flow = new RuneFlow();
        add(flow, 0, CODE, 0, LET, 1, IMPORT, 11, CODE, 0, LET, 9, MEASURE, 0, NAME, 1, MATH, 0, WORD, 1, CODE, 0, NAME, 1, END, 0);
        add(flow, 0, times(6, CODE, 0, LET, 1, JOIN, 0, NAME, 1, NAME, 1));
        add(flow, 0, CODE, 0, LET, 8, MEASURE, 0, NAME, 1);
        add(flow, 1, CODE, 0, LET, 1, BLOCK, 0, WORD, 1, CODE, 0, SET, 0, NUMBER, 3, WORD, 1, END, 0);
        add(flow, 1, times(10, CODE, 0, LET, 1, JOIN, 0, NAME, 1, NAME, 1));
        flow.compile();
        due("4 times 1024", flow.valueOf(9), 4096);
        due("at most 9999", flow.valueOf(8), 9999);
        thing("a formula of 4097", flow, 0, 6097, 4097, 0, 0, 0, 1);
    }

    // ---- memory, and promises 9 to 11

    private static void memory() {
        int[] f = {CODE, 0, LET, 0, FUNC, 1, ADD, 0, NAME, 1, NUMBER, 1};
        RuneFlow flow = doc(together(f, times(2, CODE, 0, CALL, 0, NAME, 0, NUMBER, 4), new int[] {CODE, 0, CALL, 0, NAME, 0, NUMBER, 5}));
        flow.compile();
        words("memory", flow, 1005, 1005, 1006);
        due("run", flow.ran(), 2);
        due("taken in two rounds", flow.taken(), 4);
        due("kept", flow.kept(), 2);
        flow.compile();
        due("run again", flow.ran(), 0);
        due("taken again", flow.taken(), 6);
        due("anew does not keep", flow.isAsAnew(), true);
        due("nor count", flow.taken(), 6);
        flow.setPage(20, 5);
        flow.compile();
        due("pages do not matter", flow.ran(), 0);
        add(flow, 2, WORD, 1);
        due("other files do not matter", flow.kept(), 2);
        refused("a put that is refused", IllegalArgumentException.class, () -> flow.put(0, 0, 32, 0));
        refused("a cut that is refused", IndexOutOfBoundsException.class, () -> flow.cut(0, 59));
        due("does not matter", flow.kept(), 2);
        flow.cut(0, 0);
        due("a cut forgets", flow.kept(), 0);
        flow.put(0, 0, CODE, 0);
        flow.compile();
        due("and it is run again", flow.ran(), 2);
        flow.put(0, 0, WORD, 0);
        due("a put forgets", flow.kept(), 0);
        // the file of the FUNC counts, not that of the call
        RuneFlow two = doc(CODE, 0, CALL, 0, IMPORT, 10, NUMBER, 4);
        add(two, 1, f);
        two.compile();
        due("of the file of its FUNC", two.kept(), 1);
        two.put(0, 0, WORD, 0);
        due("not of that of its CALL", two.kept(), 1);
        two.put(1, 0, WORD, 0);
        due("is forgotten with it", two.kept(), 0);
        // content, pairs, functions and LATEs stay for other compilings
        RuneFlow rich = doc(CODE, 0, LET, 0, FUNC, 1, PAIR, 0, PAIR, 0, BLOCK, 0, WORD, 5, CODE, 0, SET, 0, NUMBER, 2, CODE, 0, LATE, 0, NAME, 1, END, 0, HEAD, 0, NAME, 1,
            FUNC, 1, NAME, 1, CODE, 0, LET, 2, CALL, 0, NAME, 0, NUMBER, 7, CODE, 0, PICK, 0, NAME, 2, CODE, 0, CALL, 0, PICK, 1, NAME, 2, NUMBER, 3);
        for (int i = 0; i < 3; i++) {
            rich.compile();
            words("rich " + i, rich, 5, 1007, 1007, 1003);
            due("rich size", rich.thing(1, 5), 2);
            due("rich run", rich.ran(), i == 0 ? 2 : 0);
            due("rich taken", rich.taken(), i == 0 ? 2 : 4);
            due("rich as anew", rich.isAsAnew(), true);
        }
    }

    private static void keeps(String what, int kept, int... tokens) {
        RuneFlow flow = doc(tokens);
        flow.compile();
        due(what, flow.kept(), kept);
    }

    private static void memoryKeys() {
        keeps("content as an argument", 0, CODE, 0, CALL, 0, FUNC, 1, NAME, 1, BLOCK, 0, END, 0);
        keeps("a call that had a fault", 0, CODE, 0, CALL, 0, FUNC, 1, NAME, 5, NUMBER, 1);
        keeps("a call behind a fault", 1, CODE, 0, NAME, 5, CODE, 0, CALL, 0, FUNC, 1, NAME, 1, NUMBER, 1);
        keeps("a broken body", 1, CODE, 0, CALL, 0, FUNC, 1, WORD, 5, NUMBER, 1);
        keeps("an IMPORT that is not run", 0, CODE, 0, CALL, 0, FUNC, 1, IF, 0, NAME, 1, NUMBER, 1, LATE, 0, IMPORT, 10, NUMBER, 1);
        keeps("its own name", 1, CODE, 0, LET, 0, FUNC, 1, IF, 0, NUMBER, 0, NAME, 0, NAME, 1, CODE, 0, CALL, 0, NAME, 0, NUMBER, 1);
        keeps("a name that has a number", 1, CODE, 0, LET, 3, NUMBER, 1, CODE, 0, CALL, 0, FUNC, 1, NAME, 3, NUMBER, 1);
        keeps("a name that has content", 0, CODE, 0, LET, 3, BLOCK, 0, END, 0, CODE, 0, CALL, 0, FUNC, 1, NAME, 3, NUMBER, 1);
        keeps("a name that has none", 0, CODE, 0, CALL, 0, FUNC, 1, IF, 0, NAME, 1, NUMBER, 1, NAME, 3, NUMBER, 1);
        keeps("a name told within", 0, CODE, 0, CALL, 0, FUNC, 1, PICK, 1, PAIR, 0, LET, 3, NUMBER, 5, NAME, 3, NUMBER, 1);
        keeps("a name told within that has a number", 1, CODE, 0, LET, 3, NUMBER, 1, CODE, 0, CALL, 0, FUNC, 1, PICK, 1, PAIR, 0, LET, 3, NUMBER, 5, NAME, 3, NUMBER, 1);
        keeps("a name told within that is not looked at", 1, CODE, 0, CALL, 0, FUNC, 1, LET, 3, NUMBER, 5, NUMBER, 1);
        keeps("the parameter of a function within", 1, CODE, 0, CALL, 0, FUNC, 1, CALL, 0, FUNC, 2, NAME, 2, NUMBER, 3, NUMBER, 1);
        // the same function and argument, but other numbers
        RuneFlow flow = doc(CODE, 0, LET, 0, FUNC, 1, FUNC, 2, ADD, 0, NAME, 1, NAME, 2, CODE, 0, CALL, 0, CALL, 0, NAME, 0, NUMBER, 3, NUMBER, 1,
            CODE, 0, CALL, 0, CALL, 0, NAME, 0, NUMBER, 4, NUMBER, 1, CODE, 0, CALL, 0, CALL, 0, NAME, 0, NUMBER, 3, NUMBER, 1);
        flow.compile();
        words("other numbers", flow, 1004, 1005, 1004);
        due("other numbers, run: the outer function looks at the name 2, which has none there", flow.ran(), 2 + 3 + 3);
        due("other numbers, taken", flow.taken(), 1 + 3);
        due("other numbers, kept", flow.kept(), 2);
        // the numbers of the name 0, and of two names and more
        flow = doc(CODE, 0, LET, 2, FUNC, 0, FUNC, 1, ADD, 0, NAME, 0, NAME, 1, CODE, 0, CALL, 0, CALL, 0, NAME, 2, NUMBER, 3, NUMBER, 1, CODE, 0, CALL, 0, CALL, 0, NAME, 2, NUMBER, 4, NUMBER, 1);
        lays("the number of the name 0", flow, 1004, 1005);
        flow = doc(CODE, 0, LET, 2, NUMBER, 3, CODE, 0, LET, 3, NUMBER, 4, CODE, 0, LET, 4, NUMBER, 5, CODE, 0, CALL, 0, FUNC, 1, ADD, 0, NAME, 2, ADD, 0, NAME, 3, ADD, 0, NAME, 4, NAME, 1, NUMBER, 6);
        lays("four numbers", flow, 1018);
        due("four numbers, kept", flow.kept(), 1);
        due("four numbers, taken", flow.taken(), 1);
        // FUNCs at two places are two
        flow = doc(CODE, 0, CALL, 0, FUNC, 1, NAME, 1, NUMBER, 1, CODE, 0, CALL, 0, FUNC, 1, NAME, 1, NUMBER, 1);
        flow.compile();
        due("two places", flow.kept(), 2);
    }

    private static void memoryOfQuestions() {
        // LAST is 0, then 1
        RuneFlow flow = doc(CODE, 0, CALL, 0, FUNC, 1, ADD, 0, NAME, 1, LAST, 0, NUMBER, 5);
        flow.compile();
        words("LAST in a call", flow, 1006);
        due("is run for each answer", flow.ran(), 2);
        due("and kept for each", flow.kept(), 2);
        flow.compile();
        due("and taken for each", flow.taken(), 2);
        // the outer call asks what the inner one, taken, asked
        flow = doc(CODE, 0, LET, 0, FUNC, 1, IF, 0, NAME, 1, ADD, 0, NUMBER, 1, CALL, 0, NAME, 0, NUMBER, 0, LAST, 0, CODE, 0, CALL, 0, NAME, 0, NUMBER, 0, CODE, 0, CALL, 0, NAME, 0, NUMBER, 1);
        lays("asked by a call that was taken", flow, 1001, 1002);
        due("asked by those around", flow.kept(), 4);
        // the counter 0 at the label 0 is 0, then 7
        flow = doc(CODE, 0, STEP, 0, NUMBER, 7, LABEL, 0, CODE, 0, CALL, 0, FUNC, 1, AT, 0, NUMBER, 5);
        flow.compile();
        words("AT 0 in a call", flow, 1007);
        due("AT 0 in a call, kept", flow.kept(), 2);
        // a call around one that is taken asks it for the label 0 too
        flow = doc(CODE, 0, LET, 0, FUNC, 1, IF, 0, NAME, 1, ADD, 0, NUMBER, 1, CALL, 0, NAME, 0, NUMBER, 0, AT, 0, CODE, 0, CALL, 0, NAME, 0, NUMBER, 0,
            CODE, 0, CALL, 0, NAME, 0, NUMBER, 1, CODE, 0, STEP, 0, NUMBER, 7, LABEL, 0);
        lays("AT 0 asked by a call that was taken", flow, 1007, 1008);
        // NOW: the counter is 0, then 1, then 1 again
        flow = doc(CODE, 0, LET, 0, FUNC, 1, NOW, 0, CODE, 0, LATE, 0, CALL, 0, NAME, 0, NUMBER, 5, CODE, 0, STEP, 0, NUMBER, 1,
            CODE, 0, LATE, 0, CALL, 0, NAME, 0, NUMBER, 5, CODE, 0, LATE, 0, CALL, 0, NAME, 0, NUMBER, 5);
        flow.compile();
        words("NOW in a call", flow, 1000, 1001, 1001);
        due("NOW in a call, kept", flow.kept(), 2);
        due("NOW in a call, taken", flow.taken(), 4);
        // what was kept when content was realized is not taken ahead of that, even if the counter is 0
        RuneFlow early = doc(CODE, 0, IF, 0, LAST, 0, CALL, 0, IMPORT, 10, NUMBER, 5, NUMBER, 1, CODE, 0, LATE, 0, CALL, 0, IMPORT, 10, NUMBER, 5);
        add(early, 1, CODE, 0, LET, 0, FUNC, 1, NOW, 0);
        early.compile();
        faults("NOW ahead of realizing is a fault", early, 710300);
        words("and not taken", early, 1000);
    }

    private static void memoryBounds() {
        int[] down = {CODE, 0, LET, 0, FUNC, 1, IF, 0, NAME, 1, CALL, 0, NAME, 0, SUB, 0, NAME, 1, NUMBER, 1, NUMBER, 7};
        // f(7) is kept with 7 calls within it; within g it would be DEEP
        RuneFlow flow = doc(together(down, new int[] {CODE, 0, CALL, 0, NAME, 0, NUMBER, 7, CODE, 0, CALL, 0, FUNC, 2, CALL, 0, NAME, 0, NUMBER, 7, NUMBER, 1}));
        fails("would be DEEP", flow, at(DEEP, 5));
        due("what is not DEEP is kept", flow.kept(), 8);
        due("it is not taken: eight and one calls, and the eight within it down to the one that is DEEP", flow.ran(), 8 + 8 + 8);
        flow = doc(together(down, new int[] {CODE, 0, CALL, 0, NAME, 0, NUMBER, 6, CODE, 0, CALL, 0, FUNC, 2, CALL, 0, NAME, 0, NUMBER, 6, NUMBER, 1}));
        lays("would not be DEEP", flow, 1007, 1007);
        due("not DEEP, run", flow.ran(), 7 + 1 + 1);
        // 60 are kept, by arguments that are told one behind the other
        RuneFlow full = new RuneFlow();
        add(full, 1, CODE, 0, LET, 0, FUNC, 1, NAME, 1);
        add(full, 0, CODE, 0, LET, 0, IMPORT, 10);
        for (int i = 0; i < 14; i++) {
            add(full, 0, CODE, 0, CALL, 0, NAME, 0, NUMBER, i);
        }
        for (int turn = 1; turn <= 5; turn++) {
            full.compile();
            due("kept, turn " + turn, full.kept(), Math.min(60, 14 * turn));
            due("run, turn " + turn, full.ran(), turn < 5 ? 14 : 14 + 10);
            for (int i = 0; i < 14; i++) {
                full.cut(0, 6 + 4 * i);
                full.put(0, 6 + 4 * i, NUMBER, 14 * turn + i);
            }
        }
    }

    /** How calls were in one another is told of calls that are taken, too, and of all in one call, not of the last. */
    private static void memoryNesting() {
        int[] down = {CODE, 0, LET, 0, FUNC, 1, IF, 0, NAME, 1, CALL, 0, NAME, 0, SUB, 0, NAME, 1, NUMBER, 1, NUMBER, 7};
        // f(4) is 4 deep; f(6) takes it, and is 6 deep; three calls around are too many for f(6), two are not
        int[] taken = {CODE, 0, CALL, 0, NAME, 0, NUMBER, 4, CODE, 0, CALL, 0, NAME, 0, NUMBER, 6};
        int[] around = {CALL, 0, FUNC, 2};
        RuneFlow flow = doc(together(down, taken, new int[] {CODE, 0}, around, new int[] {CALL, 0, NAME, 0, NUMBER, 6, NUMBER, 1}));
        lays("one around f(6)", flow, 1007, 1007, 1007);
        due("one around f(6), run", flow.ran(), 5 + 2 + 1 + 1);
        flow = doc(together(down, taken, new int[] {CODE, 0}, around, around, new int[] {CALL, 0, NAME, 0, NUMBER, 6, NUMBER, 1, NUMBER, 1}));
        fails("two around f(6)", flow, at(DEEP, 5));
        // f(10) calls f(6), down to f(1), and then f(0), which was not kept ahead: it is 7 deep, whatever the last one is
        int[] first = {CODE, 0, LET, 0, FUNC, 1, IF, 0, LESS, 0, NAME, 1, NUMBER, 2, NUMBER, 7, IF, 0, LESS, 0, NUMBER, 9, NAME, 1,
            ADD, 0, CALL, 0, NAME, 0, NUMBER, 6, CALL, 0, NAME, 0, NUMBER, 0, CALL, 0, NAME, 0, SUB, 0, NAME, 1, NUMBER, 1};
        flow = doc(together(first, new int[] {CODE, 0, CALL, 0, NAME, 0, NUMBER, 10, CODE, 0}, around, new int[] {CALL, 0, NAME, 0, NUMBER, 10, NUMBER, 1}));
        flow.compile();
        words("f(10) is f(6) and f(0)", flow, 1014, 1014);
        due("f(10), kept", flow.kept(), 8);
        due("f(10) is taken within another", flow.ran(), 8 + 1 + 1);
        flow = doc(together(first, new int[] {CODE, 0, CALL, 0, NAME, 0, NUMBER, 10, CODE, 0}, around, around, new int[] {CALL, 0, NAME, 0, NUMBER, 10, NUMBER, 1, NUMBER, 1}));
        fails("two around f(10)", flow, at(DEEP, 19));
        longBounds();
        deepBehindRules();
    }

    /** A call that is kept is taken as long as the turn of the one within it comes when 299 were begun, not 300. */
    private static void longBounds() {
        for (int more = 0; more <= 1; more++) {
            RuneFlow flow = new RuneFlow();
            // the turn of the call within comes 7 behind that of f(1): IF NAME ADD NUMBER CALL NAME NUMBER; f(1) begins 10
            add(flow, 1, CODE, 0, LET, 0, FUNC, 1, IF, 0, NAME, 1, ADD, 0, NUMBER, 1, CALL, 0, NAME, 0, NUMBER, 0, NUMBER, 5);
            // h begins 49
            add(flow, 2, together(new int[] {CODE, 0, LET, 0, FUNC, 1, BLOCK, 0}, times(48, BREAK, 0), new int[] {END, 0}));
            add(flow, 0, CODE, 0, LET, 0, IMPORT, 10, CODE, 0, LET, 2, IMPORT, 20, CODE, 0, LET, 3, CALL, 0, NAME, 0, NUMBER, 1);
            add(flow, 0, times(4, CODE, 0, LET, 4, CALL, 0, NAME, 2, NUMBER, 1));
            int begun = 6 + 6 + 5 + 10 + 4 * (5 + 49);
            int words = 299 - 7 - 5 - begun + more;
            // the file 0 has room for 20 of them, the others are begun by the file 1
            add(flow, 0, times(20, WORD, 1));
            add(flow, 1, times(words - 20, BREAK, 0));
            add(flow, 0, CODE, 0, LET, 5, CALL, 0, NAME, 0, NUMBER, 1);
            flow.compile();
            due("faults, where the bound is missed by " + more, flow.faults(), more);
            due("LONG is where the call within stands", more == 0 ? 0 : flow.fault(0), more == 0 ? 0 : 100000 * LONG + 10000 + 100 * 7);
            due("and it was taken or not", flow.valueOf(5), more == 0 ? 6 : WRONG);
            due("as anew at the bound", flow.isAsAnew(), true);
        }
    }

    /** A rule's call ends: it is not around what comes by a LATE behind it. */
    private static void deepBehindRules() {
        int[] down = {CODE, 0, LET, 0, FUNC, 1, IF, 0, NAME, 1, CALL, 0, NAME, 0, SUB, 0, NAME, 1, NUMBER, 1, NUMBER, 7};
        RuneFlow flow = doc(together(down, new int[] {CODE, 0, SHOW, 5, FUNC, 1, NAME, 1, WORD, 3, WORD, 3, CODE, 0, LATE, 0, CALL, 0, NAME, 0, NUMBER, 7}));
        lays("eight calls behind a rule", flow, 3, 3, 1007);
        flow = doc(together(down, new int[] {CODE, 0, SHOW, 5, FUNC, 1, CALL, 0, NAME, 0, NUMBER, 6, WORD, 3}));
        lays("seven calls within a rule", flow, 1007);
        flow = doc(together(down, new int[] {CODE, 0, SHOW, 5, FUNC, 1, CALL, 0, NAME, 0, NUMBER, 7, WORD, 3}));
        fails("eight calls within a rule", flow, at(DEEP, 5));
    }

    private static void memoryOfFiles() {
        RuneFlow flow = doc(CODE, 0, CALL, 0, IMPORT, 10, NUMBER, 4, CODE, 0, CALL, 0, IMPORT, 20, NUMBER, 4, CODE, 0, CALL, 0, IMPORT, 20, NUMBER, 5);
        add(flow, 1, CODE, 0, LET, 0, FUNC, 1, ADD, 0, NAME, 1, NUMBER, 1);
        add(flow, 2, CODE, 0, LET, 0, FUNC, 1, JOIN, 0, NAME, 1, BLOCK, 0, WORD, 9, END, 0);
        lays("of two files", flow, 1005, 1004, 9, 1005, 9);
        due("of two files, kept", flow.kept(), 3);
        flow.cut(1, 4);
        flow.put(1, 4, NAME, 1);
        due("of the other file", flow.kept(), 2);
        lays("of the other file", flow, 1005, 1004, 9, 1005, 9);
        due("of the other file, run", flow.ran(), 1);
        due("of the other file, taken", flow.taken(), 5);
        flow.cut(2, 4);
        due("of the first file", flow.kept(), 1);
        flow.put(2, 4, NAME, 1);
        lays("of the first file", flow, 1005, 1004, 9, 1005, 9);
        due("of the first file, run", flow.ran(), 2);
    }

    /** Nothing of a round or compiling is left over for the next one. */
    private static void fresh() {
        RuneFlow flow = doc(CODE, 0, STEP, 0, NUMBER, 7, LABEL, 1, CODE, 0, STEP, 0, NUMBER, 1, LABEL, 0, WORD, 1);
        flow.compile();
        due("label 1", flow.answer(AT, 1, 0), 7);
        due("label 0", flow.answer(AT, 0, 0), 8);
        clear(flow, 0);
        due("nothing, rounds", flow.compile(), 1);
        due("nothing is laid", flow.laid(), 0);
        due("no label 0", flow.answer(AT, 0, 0), 0);
        // the 201st comes in headings, with an INDENT, a rule and a SIZE
        RuneFlow abort = new RuneFlow();
        add(abort, 1, together(new int[] {CODE, 0, LET, 0, BLOCK, 0}, times(50, WORD, 2), new int[] {END, 0}));
        add(abort, 0, WORD, 3, BREAK, 0, WORD, 3, CODE, 0, LET, 0, IMPORT, 10, CODE, 0, BLOCK, 0, CODE, 0, SET, 0, NUMBER, 2, CODE, 0, SET, 1, NUMBER, 3, CODE, 0, SHOW, 5, FUNC, 1, NUMBER, 7);
        add(abort, 0, together(new int[] {CODE, 0}, times(12, HEAD, 0), new int[] {JOIN, 0, NAME, 0, JOIN, 0, NAME, 0, JOIN, 0, NAME, 0, NAME, 0, END, 0}));
        fails("the 201st, deep within", abort, 100000 * LONG);
        thing("first of what is full", abort, 0, 3, 1, 0, 0, 0, 1);
        thing("second of what is full", abort, 1, 3, 1, 0, 1, 0, 1);
        due("laid of what is full", abort.laid(), 200 - 12 - 1);
        clear(abort, 0);
        add(abort, 0, together(new int[] {WORD, 3, BREAK, 0, WORD, 3, CODE, 0}, times(12, HEAD, 0), new int[] {NUMBER, 1}));
        lays("behind what was full", abort, 3, 3, 1001);
        thing("third behind what was full", abort, 2, 1001, 1, 0, 2, 0, 1);
        // a LATE looks at ten names
        int[] names = {};
        int[] sum = {CODE, 0, LATE, 0};
        for (int name = 0; name < 10; name++) {
            names = together(names, new int[] {CODE, 0, LET, name, NUMBER, name});
            sum = together(sum, name < 9 ? new int[] {ADD, 0, NAME, name} : new int[] {NAME, name});
        }
        lays("ten names", doc(together(names, sum)), 1045);
    }

    // ---- promises 12 to 17

    private static void things() {
        RuneFlow flow = doc(CODE, 0, SET, 0, NUMBER, 2, BREAK, 0, WORD, 42);
        due("laid ahead of compile", flow.laid(), 0);
        refused("thing ahead of compile", IndexOutOfBoundsException.class, () -> flow.thing(0, 0));
        flow.compile();
        due("laid", flow.laid(), 1);
        thing("all of a thing", flow, 0, 42, 2, 0, 1, 0, 2);
        refused("thing -1", IndexOutOfBoundsException.class, () -> flow.thing(-1, 0));
        refused("thing 1", IndexOutOfBoundsException.class, () -> flow.thing(1, 0));
        refused("what -1", IllegalArgumentException.class, () -> flow.thing(0, -1));
        refused("what 6", IllegalArgumentException.class, () -> flow.thing(0, 6));
        refused("no thing ahead of what", IndexOutOfBoundsException.class, () -> flow.thing(1, 6));
        // 201: two hundred are realized
        RuneFlow many = doc(together(new int[] {CODE, 0, LET, 0, BLOCK, 0}, times(20, WORD, 1), new int[] {END, 0}, times(10, CODE, 0, NAME, 0)));
        lays("200 words", many, times(200, 1));
        many.put(0, 0, LABEL, 0);
        fails("201 elements", many, 100000 * LONG);
        due("201 elements, laid", many.laid(), 199);
        RuneFlow cutShort = doc(together(new int[] {CODE, 0, SHOW, 5, FUNC, 1, BLOCK, 0}, times(20, WORD, 1), new int[] {END, 0, CODE, 0, HEAD, 0, BLOCK, 0}, times(10, WORD, 3), new int[] {END, 0}));
        fails("201st below a rule", cutShort, 100000 * LONG + 1);
        due("the heading, and the ten words for which the rule is used, are none of those laid", cutShort.laid(), 200 - 1 - 10);
        due("what is not ended is not counted", cutShort.answer(COUNT, 0, 0), 0);
    }

    private static void manyFaults() {
        RuneFlow flow = doc(times(60, NUMBER, 1));
        due("faults ahead of compile", flow.faults(), 0);
        flow.compile();
        due("60 faults", flow.faults(), 60);
        due("the last", flow.fault(59), at(TOKEN, 59));
        refused("fault 60", IndexOutOfBoundsException.class, () -> flow.fault(60));
        refused("fault -1", IndexOutOfBoundsException.class, () -> flow.fault(-1));
        flow.put(1, 0, NUMBER, 1);
        flow.compile();
        due("files that are not asked for are not read", flow.faults(), 60);
        flow.cut(0, 59);
        flow.cut(0, 58);
        flow.put(0, 58, CODE, 0);
        flow.put(0, 59, IMPORT, 10);
        flow.compile();
        due("the first 60", flow.faults(), 60);
        due("the 59th", flow.fault(58), 110000);
        // calls behind the 60th fault are not kept if there is one in them
        RuneFlow behind = doc(together(times(60 - 5, NUMBER, 1), new int[] {CODE, 0, CALL, 0, FUNC, 1, NAME, 5, NUMBER, 1}));
        behind.compile();
        due("55 and one", behind.faults(), 56);
        clear(behind, 1);
        add(behind, 1, times(60, NUMBER, 1));
        behind.cut(0, 0);
        behind.cut(0, 0);
        behind.put(0, 0, CODE, 0);
        behind.put(0, 1, IMPORT, 10);
        behind.compile();
        due("all full", behind.faults(), 60);
        due("a fault that is not noted is one", behind.kept(), 0);
    }

    private static void answers() {
        RuneFlow flow = doc(CODE, 0, STEP, 2, NUMBER, 4, LABEL, 9, CODE, 0, HEAD, 0, NUMBER, 1);
        due("answer ahead of compile", flow.answer(AT, 9, 2), 0);
        flow.compile();
        due("answer AT", flow.answer(AT, 9, 2), 4);
        due("answer PAGE", flow.answer(PAGE, 9, 77), 1);
        due("answer LAST", flow.answer(LAST, -5, 77), 1);
        due("answer COUNT", flow.answer(COUNT, 99, -1), 1);
        refused("answer NOW", IllegalArgumentException.class, () -> flow.answer(NOW, 0, 0));
        refused("answer MEASURE", IllegalArgumentException.class, () -> flow.answer(MEASURE, 0, 0));
        refused("answer AT label -1", IllegalArgumentException.class, () -> flow.answer(AT, -1, 0));
        refused("answer AT label 10", IllegalArgumentException.class, () -> flow.answer(AT, 10, 0));
        refused("answer PAGE label 10", IllegalArgumentException.class, () -> flow.answer(PAGE, 10, 0));
        refused("answer PAGE label -1", IllegalArgumentException.class, () -> flow.answer(PAGE, -1, 0));
        refused("answer AT counter 3", IllegalArgumentException.class, () -> flow.answer(AT, 0, 3));
        refused("answer AT counter -1", IllegalArgumentException.class, () -> flow.answer(AT, 0, -1));
        flow.isAsAnew();
        due("answer behind isAsAnew", flow.answer(AT, 9, 2), 4);
        flow.cut(0, 3);
        due("answer behind cut", flow.answer(PAGE, 9, 0), 1);
        flow.compile();
        due("answer behind compile", flow.answer(PAGE, 9, 0), 0);
    }

    private static void valuesOf() {
        RuneFlow flow = doc(CODE, 0, LET, 0, SUB, 0, NUMBER, 0, NUMBER, 9, CODE, 0, LET, 1, BLOCK, 0, END, 0, CODE, 0, LET, 2, FUNC, 0, NUMBER, 1, CODE, 0, LET, 3, PAIR, 0, NUMBER, 1, NUMBER, 1,
            CODE, 0, LET, 4, LET, 6, NUMBER, 1, CODE, 0, LET, 5, WORD, 0, CODE, 0, LET, 7, LATE, 0, NUMBER, 1, CODE, 0, LET, 8, BLOCK, 0, WORD, 1, END, 0);
        due("value ahead of compile", flow.valueOf(0), UNNAMED);
        flow.compile();
        due("value number", flow.valueOf(0), -9);
        due("value empty content", flow.valueOf(1), 20000);
        due("value function", flow.valueOf(2), 20001);
        due("value pair", flow.valueOf(3), 20002);
        due("value NOTHING", flow.valueOf(4), NOTHING);
        due("value WRONG", flow.valueOf(5), WRONG);
        due("value none", flow.valueOf(9), UNNAMED);
        due("value LATE", flow.valueOf(7), 20000);
        due("value content", flow.valueOf(8), 20000);
        refused("value -1", IllegalArgumentException.class, () -> flow.valueOf(-1));
        refused("value 10", IllegalArgumentException.class, () -> flow.valueOf(10));
        flow.cut(0, 0);
        due("value behind cut", flow.valueOf(0), -9);
        flow.compile();
        due("value behind compile", flow.valueOf(0), UNNAMED);
    }
}
