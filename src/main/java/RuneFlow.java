import java.util.Arrays;

/**
 * A document compiler with a small language. Everything that a compiling makes stands in rows of numbers that
 * the object keeps and uses again, and runs on a stack of frames of its own, so that neither the depth of a
 * document nor the number of compilings costs calls or objects.
 */
public final class RuneFlow {
    public static final int NONE = -1;
    public static final int WORD = 0, BREAK = 1, LABEL = 2, CODE = 3, MATH = 4, END = 5;
    public static final int NUMBER = 6, NAME = 7, BLOCK = 8, ADD = 9, SUB = 10, MUL = 11, LESS = 12, JOIN = 13, IF = 14, LET = 15, FUNC = 16, CALL = 17, SET = 18, SHOW = 19, HEAD = 20, STEP = 21, LATE = 22, NOW = 23, AT = 24, PAGE = 25, LAST = 26, COUNT = 27, MEASURE = 28, IMPORT = 29, PAIR = 30, PICK = 31;
    public static final int TOKEN = 1, OPEN_END = 2, KIND = 3, UNKNOWN = 4, DEEP = 5, LONG = 6, PLACE = 7, CIRCLE = 8;

    private static final int FILES = 3;
    private static final int FILE_SIZE = 60;
    private static final int MOST_IN_TOKEN = 99;
    private static final int NAMES = 10;
    private static final int LABELS = 10;
    private static final int COUNTERS = 3;
    private static final int MOST_SIZE = 3;
    private static final int MOST_INDENT = 3;

    private static final int MOST_CALLS = 8;
    private static final int MOST_WITHIN = 12;
    private static final int MOST_BEGUN = 300;
    private static final int MOST_ELEMENTS = 200;
    private static final int MOST_FAULTS = 60;
    private static final int MOST_KEPT = 60;
    private static final int MOST_ROUNDS = 4;
    /** Far above what any document can need: the loops that have no bound of the document's end at this one. */
    private static final int MOST_STEPS = 1000000;

    /** Values are single numbers: numbers as they are, these marks, and from NODES on the nodes of the heap. */
    private static final int BOUND = 9999;
    private static final int EMPTY = 20000;
    private static final int SOME_FUNCTION = 20001;
    private static final int SOME_PAIR = 20002;
    private static final int NOTHING = 20003;
    private static final int WRONG = 20004;
    private static final int UNNAMED = 20005;
    private static final int NODES = 30000;

    /** A token's id is 60 times its file, and its place, added; behind all ids come the texts of the files. */
    private static final int ROOTS = FILES * FILE_SIZE;
    private static final int BROKEN = ROOTS + FILES;

    /** Questions are numbered: AT, PAGE, LAST, COUNT, and then NOW. */
    private static final int ASK_PAGE = LABELS * COUNTERS;
    private static final int ASK_LAST = ASK_PAGE + LABELS;
    private static final int ASK_COUNT = ASK_LAST + 1;
    private static final int ASK_NOW = ASK_COUNT + 1;
    private static final int QUESTIONS = ASK_NOW + COUNTERS;

    private final Files files;
    private final Press press;
    private final Result latest;
    private final Result trial;
    private boolean compiled;

    public RuneFlow() {
        files = new Files();
        press = new Press(files);
        latest = new Result();
        trial = new Result();
    }

    // ---- files

    public int put(int file, int place, int kind, int number) throws IndexOutOfBoundsException, IllegalArgumentException, IllegalStateException {
        if (!isFile(file) || place < 0 || place > files.size(file)) {
            throw new IndexOutOfBoundsException();
        }
        if (kind < WORD || kind > PICK || number < 0 || number > MOST_IN_TOKEN) {
            throw new IllegalArgumentException();
        }
        if (files.size(file) >= FILE_SIZE) {
            throw new IllegalStateException();
        }
        files.insert(file, place, kind, number);
        press.forget(file);
        return files.size(file);
    }

    public int cut(int file, int place) throws IndexOutOfBoundsException {
        if (!isFile(file) || place < 0 || place >= files.size(file)) {
            throw new IndexOutOfBoundsException();
        }
        int told = files.told(file, place);
        files.remove(file, place);
        press.forget(file);
        return told;
    }

    public int token(int file, int place) throws IndexOutOfBoundsException {
        if (!isFile(file) || place < 0) {
            throw new IndexOutOfBoundsException();
        }
        return place < files.size(file) ? files.told(file, place) : NONE;
    }

    public int setPage(int width, int height) throws IllegalArgumentException {
        if (width < 3 || width > 30 || height < 1 || height > 10) {
            throw new IllegalArgumentException();
        }
        return press.turnPage(width, height);
    }

    // ---- compiling

    public int compile() {
        press.compileInto(latest, true);
        compiled = true;
        return latest.rounds;
    }

    public boolean isAsAnew() {
        if (!compiled) {
            return false;
        }
        press.compileInto(trial, false);
        return trial.looksLike(latest);
    }

    public boolean isSettled() {
        return compiled && latest.settled;
    }

    public int ran() {
        return latest.callsRun;
    }

    public int taken() {
        return latest.callsTaken;
    }

    public int kept() {
        return press.countKept();
    }

    // ---- what was laid and noted by the latest compiling; nothing ahead of one

    public int laid() {
        return latest.thingCount;
    }

    public int thing(int thing, int what) throws IndexOutOfBoundsException, IllegalArgumentException {
        if (thing < 0 || thing >= latest.thingCount) {
            throw new IndexOutOfBoundsException();
        }
        if (what < 0 || what >= Result.THING_SIZE) {
            throw new IllegalArgumentException();
        }
        return latest.things.get(thing * Result.THING_SIZE + what);
    }

    public int faults() {
        return latest.faultCount;
    }

    public int fault(int fault) throws IndexOutOfBoundsException {
        if (fault < 0 || fault >= latest.faultCount) {
            throw new IndexOutOfBoundsException();
        }
        return latest.noted.get(fault);
    }

    public int answer(int kind, int label, int counter) throws IllegalArgumentException {
        if (kind != AT && kind != PAGE && kind != LAST && kind != COUNT) {
            throw new IllegalArgumentException();
        }
        if ((kind == AT || kind == PAGE) && (label < 0 || label >= LABELS)) {
            throw new IllegalArgumentException();
        }
        if (kind == AT && (counter < 0 || counter >= COUNTERS)) {
            throw new IllegalArgumentException();
        }
        return latest.answers.get(question(kind, label, counter));
    }

    public int valueOf(int name) throws IllegalArgumentException {
        if (name < 0 || name >= NAMES) {
            throw new IllegalArgumentException();
        }
        return compiled ? latest.values.get(name) : UNNAMED;
    }

    // ---- shared by the parts below

    private static boolean isFile(int file) {
        return file >= 0 && file < FILES;
    }

    private static boolean isNumber(int value) {
        return value >= -BOUND && value <= BOUND;
    }

    private static int bounded(int number) {
        return Math.max(-BOUND, Math.min(BOUND, number));
    }

    /** Where a fault is, as faults tell it. */
    private static int spot(int id) {
        return 10000 * (id / FILE_SIZE) + 100 * (id % FILE_SIZE);
    }

    private static int question(int kind, int label, int counter) {
        switch (kind) {
            case AT:
                return label * COUNTERS + counter;
            case PAGE:
                return ASK_PAGE + label;
            case LAST:
                return ASK_LAST;
            case COUNT:
                return ASK_COUNT;
            default:
                return ASK_NOW + counter;
        }
    }

    /** Numbers in a row that is as long as it was used; what was never set is 0. */
    private static final class Row {
        private static final int MOST_CELLS = 1 << 22;
        private int[] cells;

        Row() {
            cells = new int[16];
        }

        int get(int at) {
            return at < 0 || at >= cells.length ? 0 : cells[at];
        }

        void set(int at, int number) {
            if (at < 0 || at >= MOST_CELLS) {
                return;
            }
            if (at >= cells.length) {
                int twice = 2 * cells.length;
                cells = Arrays.copyOf(cells, at < twice ? twice : at + 1);
            }
            cells[at] = number;
        }

        void fill(int from, int count, int number) {
            if (from < 0 || count <= 0 || count > MOST_CELLS || from > MOST_CELLS - count) {
                return;
            }
            int end = from + count;
            if (end > cells.length) {
                int twice = 2 * cells.length;
                cells = Arrays.copyOf(cells, end < twice ? twice : end);
            }
            Arrays.fill(cells, from, end, number);
        }

        void copyFrom(Row other, int count) {
            for (int i = 0; i < count; i++) {
                set(i, other.get(i));
            }
        }

        boolean startsLike(Row other, int count) {
            for (int i = 0; i < count; i++) {
                if (get(i) != other.get(i)) {
                    return false;
                }
            }
            return true;
        }
    }

    /** The tokens of the three files. */
    private static final class Files {
        private final Row kinds = new Row();
        private final Row numbers = new Row();
        private final Row sizes = new Row();

        int size(int file) {
            return sizes.get(file);
        }

        int kind(int id) {
            return kinds.get(id);
        }

        int number(int id) {
            return numbers.get(id);
        }

        int told(int file, int place) {
            int id = file * FILE_SIZE + place;
            return 100 * kind(id) + number(id);
        }

        void insert(int file, int place, int kind, int number) {
            int first = file * FILE_SIZE;
            for (int i = size(file); i > place; i--) {
                move(first + i - 1, first + i);
            }
            kinds.set(first + place, kind);
            numbers.set(first + place, number);
            sizes.set(file, size(file) + 1);
        }

        void remove(int file, int place) {
            int first = file * FILE_SIZE;
            for (int i = place + 1; i < size(file); i++) {
                move(first + i, first + i - 1);
            }
            sizes.set(file, size(file) - 1);
        }

        private void move(int from, int to) {
            kinds.set(to, kind(from));
            numbers.set(to, number(from));
        }
    }

    /** What one compiling came to. */
    private static final class Result {
        static final int THING_SIZE = 6;
        final Row things = new Row();
        final Row noted = new Row();
        final Row answers = new Row();
        final Row values = new Row();
        int thingCount;
        int faultCount;
        int rounds;
        int callsRun;
        int callsTaken;
        boolean settled;

        boolean looksLike(Result other) {
            return thingCount == other.thingCount && faultCount == other.faultCount
                && things.startsLike(other.things, thingCount * THING_SIZE) && noted.startsLike(other.noted, faultCount);
        }
    }

    /** What a round has come to so far, for all who work on it. */
    private static final class Round {
        /** The answers to all questions; those to NOW are UNNAMED ahead of realizing. */
        final Row now = new Row();
        /** The answers that a next round would have. */
        final Row next = new Row();
        final Row asked = new Row();
        int askedCount;
        int begun;
        /** All faults, those behind the 60th too. */
        int faultCount;
        int used;
        Result out = new Result();

        void start() {
            askedCount = 0;
            begun = 0;
            faultCount = 0;
            used = 0;
            now.copyFrom(next, ASK_NOW);
            now.fill(ASK_NOW, COUNTERS, UNNAMED);
            next.fill(0, ASK_NOW, 0);
            out.faultCount = 0;
            out.thingCount = 0;
        }

        void note(int code, int spot) {
            faultCount++;
            if (out.faultCount < MOST_FAULTS) {
                out.noted.set(out.faultCount, 100000 * code + spot + used);
                out.faultCount++;
            }
        }

        void ask(int question) {
            asked.set(askedCount, question);
            askedCount++;
        }
    }

    /** What reading makes of the tokens. Ids are kept here as 1 more, so that 0 is none. */
    private static final class Tree {
        private static final int NEXT = 3;
        private static final int NAMES_USED = 4;
        private static final int IMPORTS = 5;
        private static final int IN_BLOCK = 6;
        private static final int LET_NAME = 7;
        private static final int AROUND = 8;
        private static final int SLOTS = 9;

        /** What is still to come while a file is read: a stack of these, the innermost one last. */
        private static final int A_TEXT = 0;
        private static final int A_FORMULA = 1;
        private static final int A_PART = 2;
        private static final int OPEN_WHAT = 0;
        private static final int OPEN_OWNER = 1;
        private static final int OPEN_SLOT = 2;
        private static final int OPEN_IN_BLOCK = 3;
        private static final int OPEN_AROUND = 4;
        private static final int OPEN_SLOTS = 5;

        private final Files files;
        private final Round round;
        private final Row cells = new Row();
        private final Row open = new Row();
        private int openCount;
        private int file;
        private int place;

        Tree(Files files, Round round) {
            this.files = files;
            this.round = round;
        }

        int part(int id, int slot) {
            return cells.get(id * SLOTS + slot) - 1;
        }

        int firstItem(int id) {
            return cells.get(id * SLOTS) - 1;
        }

        int nextItem(int id) {
            return cells.get(id * SLOTS + NEXT) - 1;
        }

        /** The names that a FUNC or LATE looks at, as bits; without those that a call of it tells itself. */
        int namesUsed(int id) {
            return cells.get(id * SLOTS + NAMES_USED);
        }

        boolean imports(int id) {
            return cells.get(id * SLOTS + IMPORTS) != 0;
        }

        boolean isInBlock(int id) {
            return cells.get(id * SLOTS + IN_BLOCK) != 0;
        }

        /** The name of the LET whose part this FUNC is, or NONE. */
        int letName(int id) {
            return cells.get(id * SLOTS + LET_NAME) - 1;
        }

        void read(int fileToRead) {
            file = fileToRead;
            place = 0;
            openCount = 0;
            cells.fill(file * FILE_SIZE * SLOTS, files.size(file) * SLOTS, 0);
            cells.fill((ROOTS + file) * SLOTS, SLOTS, 0);
            expect(A_TEXT, ROOTS + file, 0, 1, 0);
            for (int steps = 0; steps < MOST_STEPS && openCount > 0; steps++) {
                if (top(OPEN_WHAT) == A_PART) {
                    readPart();
                } else {
                    readItem();
                }
            }
        }

        private void readItem() {
            boolean formula = top(OPEN_WHAT) == A_FORMULA;
            int owner = top(OPEN_OWNER);
            if (place >= files.size(file)) {
                if (owner < ROOTS) {
                    round.note(OPEN_END, 10000 * file + 100 * place);
                }
                openCount--;
                return;
            }
            int id = file * FILE_SIZE + place;
            int kind = files.kind(id);
            place++;
            if (kind == END && owner < ROOTS) {
                openCount--;
                return;
            }
            if (formula ? kind != WORD && kind != CODE : kind > MATH) {
                round.note(TOKEN, spot(id));
                return;
            }
            int around = top(OPEN_AROUND);
            addItem(owner, id);
            if (kind == CODE) {
                expect(A_PART, id, 0, formula ? 0 : 1, around);
            } else if (kind == MATH) {
                expect(A_FORMULA, id, 0, 0, around);
            }
        }

        private void addItem(int owner, int id) {
            int slotOfLast = (openCount - 1) * OPEN_SLOTS + OPEN_SLOT;
            int last = open.get(slotOfLast) - 1;
            cells.set(last == NONE ? owner * SLOTS : last * SLOTS + NEXT, id + 1);
            open.set(slotOfLast, id + 1);
        }

        private void readPart() {
            int owner = top(OPEN_OWNER);
            int slot = top(OPEN_SLOT);
            int inBlock = top(OPEN_IN_BLOCK);
            int around = top(OPEN_AROUND);
            openCount--;
            int id = file * FILE_SIZE + place;
            boolean ended = place >= files.size(file);
            int kind = files.kind(id);
            if (ended || kind < NUMBER) {
                round.note(ended ? OPEN_END : TOKEN, 10000 * file + 100 * place);
                if (!ended && kind != END) {
                    place++;
                }
                cells.set(owner * SLOTS + slot, BROKEN + 1);
                return;
            }
            place++;
            cells.set(owner * SLOTS + slot, id + 1);
            cells.set(id * SLOTS + IN_BLOCK, inBlock);
            cells.set(id * SLOTS + AROUND, around);
            if (kind == FUNC && files.kind(owner) == LET) {
                cells.set(id * SLOTS + LET_NAME, files.number(owner) % NAMES + 1);
            }
            if (kind == NAME || kind == IMPORT) {
                tellAround(id, kind);
            }
            if (kind == BLOCK) {
                expect(A_TEXT, id, 0, 1, around);
                return;
            }
            boolean later = kind == FUNC || kind == LATE;
            for (int i = partsOf(kind) - 1; i >= 0; i--) {
                expect(A_PART, id, i, later ? 0 : inBlock, later ? id + 1 : around);
            }
        }

        /** Every FUNC and LATE around looks at this name, but for those that tell it themselves, or imports. */
        private void tellAround(int id, int kind) {
            int name = files.number(id) % NAMES;
            int around = cells.get(id * SLOTS + AROUND) - 1;
            for (int left = FILE_SIZE; left > 0 && around != NONE; left--) {
                int at = around * SLOTS;
                if (kind == IMPORT) {
                    cells.set(at + IMPORTS, 1);
                } else if (files.kind(around) != FUNC || files.number(around) % NAMES != name && cells.get(at + LET_NAME) != name + 1) {
                    cells.set(at + NAMES_USED, cells.get(at + NAMES_USED) | 1 << name);
                }
                around = cells.get(at + AROUND) - 1;
            }
        }

        private static int partsOf(int kind) {
            switch (kind) {
                case LET:
                case FUNC:
                case SET:
                case SHOW:
                case HEAD:
                case STEP:
                case LATE:
                case MEASURE:
                case PICK:
                    return 1;
                case ADD:
                case SUB:
                case MUL:
                case LESS:
                case JOIN:
                case CALL:
                case PAIR:
                    return 2;
                case IF:
                    return 3;
                default:
                    return 0;
            }
        }

        private void expect(int what, int owner, int slot, int inBlock, int around) {
            int at = openCount * OPEN_SLOTS;
            open.set(at + OPEN_WHAT, what);
            open.set(at + OPEN_OWNER, owner);
            open.set(at + OPEN_SLOT, slot);
            open.set(at + OPEN_IN_BLOCK, inBlock);
            open.set(at + OPEN_AROUND, around);
            openCount++;
        }

        private int top(int slot) {
            return open.get((openCount - 1) * OPEN_SLOTS + slot);
        }
    }

    /**
     * Functions, pairs and content. A node looks only at nodes made ahead of it, so that one way down the heap
     * finds all that a kept value needs. What a value's content is worth is told when the node is made: its
     * widths, whether anything is in it to be realized, and how many functions are in it; for contents that hold
     * the same content twice, again and again, are too large to be walked through.
     */
    private static final class Heap {
        static final int A_WORD = 1, A_BREAK = 2, A_LABEL = 3, A_FORMULA = 4, A_HEADING = 5, A_STEP = 6, A_LATE = 7;
        static final int A_JOIN = 8, A_SCOPE = 9, A_SETTING = 10, A_RULE = 11, A_FUNCTION = 12, A_PAIR = 13, A_NAME = 14;

        /** Only LEFT and RIGHT tell values. */
        static final int WHAT = 0, LEFT = 1, RIGHT = 2, INFO = 3, MORE = 4, WIDTH = 4;
        private static final int NODE_SIZE = 8;
        private static final int MOST_NODES = 1 << 18;

        private final Row moves = new Row();
        private int[] cells = new int[128 * NODE_SIZE];
        private int count;
        /** How many nodes, the first ones, are those of kept calls. */
        private int keptCount;

        int get(int value, int field) {
            int at = (value - NODES) * NODE_SIZE + field;
            return value < NODES || at < 0 || at >= cells.length ? 0 : cells[at];
        }

        private void set(int value, int field, int number) {
            int at = (value - NODES) * NODE_SIZE + field;
            if (value >= NODES && at >= 0 && at < cells.length) {
                cells[at] = number;
            }
        }

        int make(int what, int left, int right, int info, int more) {
            if (count >= MOST_NODES) {
                return EMPTY;
            }
            int at = count * NODE_SIZE;
            if (at + NODE_SIZE > cells.length) {
                cells = Arrays.copyOf(cells, Math.max(at + NODE_SIZE, 2 * cells.length));
            }
            cells[at + WHAT] = what;
            cells[at + LEFT] = left;
            cells[at + RIGHT] = right;
            cells[at + INFO] = info;
            cells[at + MORE] = more;
            cells[at + WIDTH + 1] = 0;
            cells[at + WIDTH + 2] = 0;
            cells[at + WIDTH + 3] = 0;
            count++;
            return NODES + count - 1;
        }

        int word(int number) {
            return withWidths(make(A_WORD, NOTHING, NOTHING, number, 0), 1, 2, 3);
        }

        int formula(int width) {
            return withWidths(make(A_FORMULA, NOTHING, NOTHING, width, 0), width, width, width);
        }

        int heading(int content, int id) {
            return withWidths(make(A_HEADING, content, NOTHING, id, 0), width(content, 1), width(content, 2), width(content, 3));
        }

        int withWidths(int node, int one, int two, int three) {
            set(node, WIDTH + 1, one);
            set(node, WIDTH + 2, two);
            set(node, WIDTH + 3, three);
            return node;
        }

        /** The content of both, where what has nothing to realize is left out. */
        int join(int left, int right) {
            boolean some = isFilled(left);
            boolean others = isFilled(right);
            if (!some && !others) {
                return EMPTY;
            }
            if (!others && isContent(left)) {
                return left;
            }
            if (!some && isContent(right)) {
                return right;
            }
            return withBothWidths(make(A_JOIN, some ? left : NOTHING, others ? right : NOTHING, 0, 0), left, right);
        }

        int pair(int left, int right) {
            int functions = Math.min(MOST_FAULTS, functionsIn(left) + functionsIn(right));
            int filled = isFilled(left) || isFilled(right) ? 1 : 0;
            return withBothWidths(make(A_PAIR, left, right, functions, filled), left, right);
        }

        private int withBothWidths(int node, int left, int right) {
            for (int size = 1; size <= MOST_SIZE; size++) {
                set(node, WIDTH + size, Math.min(BOUND, width(left, size) + width(right, size)));
            }
            return node;
        }

        /** One behind the other, as parts of a text whose widths the text itself tells. */
        int chain(int left, int right) {
            return left == NOTHING ? right : make(A_JOIN, left, right, 0, 0);
        }

        /** The width of a value's content, where this SIZE is set around it. */
        int width(int value, int size) {
            if (isNumber(value)) {
                return size;
            }
            return size < 1 || size > MOST_SIZE ? 0 : get(value, WIDTH + size);
        }

        int functionsIn(int value) {
            int what = get(value, WHAT);
            return what == A_FUNCTION ? 1 : what == A_PAIR ? get(value, INFO) : 0;
        }

        boolean isContent(int value) {
            int what = get(value, WHAT);
            return value == EMPTY || what >= A_WORD && what <= A_SCOPE;
        }

        /** Whether anything in the content of the value is to be realized. */
        boolean isFilled(int value) {
            int what = get(value, WHAT);
            return isNumber(value) || what >= A_WORD && what <= A_SCOPE || what == A_PAIR && get(value, MORE) != 0;
        }

        int code(int value) {
            if (value < NODES) {
                return value;
            }
            int what = get(value, WHAT);
            return what == A_FUNCTION ? SOME_FUNCTION : what == A_PAIR ? SOME_PAIR : EMPTY;
        }

        /** Lets go of all nodes, from the first one told on, that no kept call needs. */
        void sweep(int from, Memory memory) {
            moves.fill(from, count - from, 0);
            for (int i = 0; i < memory.size(); i++) {
                mark(memory.value(i), from);
            }
            for (int i = count - 1; i >= from; i--) {
                if (moves.get(i) != 0) {
                    mark(get(NODES + i, LEFT), from);
                    mark(get(NODES + i, RIGHT), from);
                }
            }
            int free = from;
            for (int i = from; i < count; i++) {
                if (moves.get(i) != 0) {
                    move(i, free, from);
                    free++;
                    moves.set(i, free);
                }
            }
            for (int i = 0; i < memory.size(); i++) {
                memory.setValue(i, moved(memory.value(i), from));
            }
            count = free;
            keptCount = free;
        }

        void sweepNew(Memory memory) {
            sweep(keptCount, memory);
        }

        private void mark(int value, int from) {
            if (value >= NODES + from) {
                moves.set(value - NODES, 1);
            }
        }

        private void move(int from, int to, int first) {
            for (int field = 0; field < NODE_SIZE; field++) {
                int number = get(NODES + from, field);
                set(NODES + to, field, field == LEFT || field == RIGHT ? moved(number, first) : number);
            }
        }

        private int moved(int value, int from) {
            return value < NODES + from ? value : NODES + moves.get(value - NODES) - 1;
        }
    }

    /** The calls that are kept, with all that tells whether another one is the same. */
    private static final class Memory {
        private static final int FUNCTION = 0, ARGUMENT = 1, VALUE = 2, BEGUN = 3, NESTING = 4, LAST_TURN = 5, NUMBERS = 6;
        private static final int ANSWERS = NUMBERS + NAMES;
        private static final int RECORD_SIZE = ANSWERS + QUESTIONS;

        private final Row records = new Row();
        private int count;

        int size() {
            return count;
        }

        int value(int record) {
            return records.get(record * RECORD_SIZE + VALUE);
        }

        void setValue(int record, int value) {
            records.set(record * RECORD_SIZE + VALUE, value);
        }

        int begun(int record) {
            return records.get(record * RECORD_SIZE + BEGUN);
        }

        int nesting(int record) {
            return records.get(record * RECORD_SIZE + NESTING);
        }

        int lastTurn(int record) {
            return records.get(record * RECORD_SIZE + LAST_TURN);
        }

        boolean isAsked(int record, int question) {
            return records.get(record * RECORD_SIZE + ANSWERS + question) != UNNAMED;
        }

        /** The kept call that can be taken for this one, or NONE. */
        int find(int function, int argument, Row numbers, Round round, int depth) {
            for (int i = 0; i < count; i++) {
                if (records.get(i * RECORD_SIZE + FUNCTION) == function && records.get(i * RECORD_SIZE + ARGUMENT) == argument
                    && hasNumbers(i, numbers) && wouldAnswer(i, round)) {
                    boolean fits = depth + nesting(i) < MOST_CALLS && round.begun + lastTurn(i) < MOST_BEGUN;
                    return fits ? i : NONE;
                }
            }
            return NONE;
        }

        private boolean hasNumbers(int record, Row numbers) {
            for (int name = 0; name < NAMES; name++) {
                if (records.get(record * RECORD_SIZE + NUMBERS + name) != numbers.get(name)) {
                    return false;
                }
            }
            return true;
        }

        private boolean wouldAnswer(int record, Round round) {
            for (int question = 0; question < QUESTIONS; question++) {
                int answered = records.get(record * RECORD_SIZE + ANSWERS + question);
                if (answered != UNNAMED && answered != round.now.get(question)) {
                    return false;
                }
            }
            return true;
        }

        /** The new record, whose other fields are still to be told, or NONE. */
        int add(int function, int argument, int value) {
            if (count >= MOST_KEPT) {
                return NONE;
            }
            int at = count * RECORD_SIZE;
            records.set(at + FUNCTION, function);
            records.set(at + ARGUMENT, argument);
            records.set(at + VALUE, value);
            count++;
            return count - 1;
        }

        void tellCourse(int record, int begun, int nesting, int lastTurn) {
            int at = record * RECORD_SIZE;
            records.set(at + BEGUN, begun);
            records.set(at + NESTING, nesting);
            records.set(at + LAST_TURN, lastTurn);
        }

        void tellNumbers(int record, Row numbers) {
            for (int name = 0; name < NAMES; name++) {
                records.set(record * RECORD_SIZE + NUMBERS + name, numbers.get(name));
            }
        }

        void tellAnswers(int record, Round round, int firstAsked) {
            int at = record * RECORD_SIZE + ANSWERS;
            records.fill(at, QUESTIONS, UNNAMED);
            for (int i = firstAsked; i < round.askedCount; i++) {
                int question = round.asked.get(i);
                records.set(at + question, round.now.get(question));
            }
        }

        /** Whether any was of this file. */
        boolean forget(int file) {
            int before = count;
            count = 0;
            for (int i = 0; i < before; i++) {
                if (records.get(i * RECORD_SIZE + FUNCTION) / FILE_SIZE != file) {
                    for (int field = 0; field < RECORD_SIZE; field++) {
                        records.set(count * RECORD_SIZE + field, records.get(i * RECORD_SIZE + field));
                    }
                    count++;
                }
            }
            return count < before;
        }
    }

    /** What is begun and not ended, the innermost one last. */
    private static final class Frames {
        static final int TWO = 0, ONE = 1, CHOICE = 2, CALLING = 3, IMPORTING = 4, TEXT = 5, FORMULA = 6;
        static final int PIECE = 7, SCOPE = 8, HEADING = 9, RULE = 10, LATER = 11;

        static final int WHAT = 0, NODE = 1, STAGE = 2;
        /** Of expressions, calls, and what is realized. */
        static final int FIRST = 3, ARGUMENT = 4, KEEPABLE = 5, ASKED = 6, FAULTS = 7, BEGUN = 8, DEEPEST = 9, DEPTH = 10;
        /** Of texts and formulas. */
        static final int ITEM = 3, SEQUENCE = 4, MARKS = 5, FILLED = 6, SIZE = 7, SIZE_NEXT = 8, OUTER = 9, WIDTH = 9;
        /** Of the scopes of blocks that are realized, and of rules. */
        static final int SIZE_BEFORE = 3, INDENT_BEFORE = 4, RULES_BEFORE = 5, ELEMENT = 11;
        private static final int FRAME_SIZE = 13;

        private final Row cells = new Row();
        private int count;

        int size() {
            return count;
        }

        void clear() {
            count = 0;
        }

        void push(int what, int node) {
            int at = count * FRAME_SIZE;
            cells.fill(at, FRAME_SIZE, 0);
            cells.set(at + WHAT, what);
            cells.set(at + NODE, node);
            count++;
        }

        void pop() {
            count = Math.max(0, count - 1);
        }

        int get(int field) {
            return cells.get((count - 1) * FRAME_SIZE + field);
        }

        void set(int field, int number) {
            cells.set((count - 1) * FRAME_SIZE + field, number);
        }

        int getAt(int frame, int field) {
            return cells.get(frame * FRAME_SIZE + field);
        }

        void setAt(int frame, int field, int number) {
            cells.set(frame * FRAME_SIZE + field, number);
        }
    }

    /** Runs expressions, texts and formulas: one step of the innermost frame at a time. */
    private static final class Runner {
        private static final int RUNNING = 1;
        private static final int RUN = 2;

        private final Files files;
        private final Tree tree;
        private final Heap heap;
        private final Memory memory;
        private final Round round;
        private final Frames frames;
        private final Row names = new Row();
        private final Row fileNames = new Row();
        private final Row fileStates = new Row();
        private final Row numbers = new Row();
        /** The expression to begin next, or NONE. */
        int due;
        /** The value of what ended last. */
        int value;
        private int scope;
        private int text;
        private int depth;
        private int deepest;
        private int lastTurn;
        private boolean remembers;

        Runner(Files files, Tree tree, Heap heap, Memory memory, Round round, Frames frames) {
            this.files = files;
            this.tree = tree;
            this.heap = heap;
            this.memory = memory;
            this.round = round;
            this.frames = frames;
        }

        void start(boolean remembering) {
            remembers = remembering;
            due = NONE;
            value = NOTHING;
            scope = NONE;
            text = NONE;
            depth = 0;
            deepest = 0;
            lastTurn = 0;
            frames.clear();
            fileStates.fill(0, FILES, 0);
            tree.read(0);
            openScope(NOTHING);
            openText(ROOTS);
        }

        int nameInFile(int file, int name) {
            return fileNames.get(file * NAMES + name);
        }

        private int wrong(int code, int id) {
            round.note(code, spot(id));
            return WRONG;
        }

        /** Functions have no content: each one in a value whose content is wanted is a fault. */
        void noteFunctions(int id) {
            int functions = heap.functionsIn(value);
            for (int i = 0; i < functions; i++) {
                round.note(KIND, spot(id));
            }
        }

        // ---- names

        private void openScope(int closed) {
            scope++;
            names.fill(scope * NAMES, NAMES, UNNAMED);
            int bound = closed;
            for (int left = NAMES; left > 0 && bound >= NODES; left--) {
                names.set(scope * NAMES + heap.get(bound, Heap.INFO), heap.get(bound, Heap.LEFT));
                bound = heap.get(bound, Heap.RIGHT);
            }
        }

        private void openInnerScope() {
            scope++;
            for (int name = 0; name < NAMES; name++) {
                setName(name, names.get((scope - 1) * NAMES + name));
            }
        }

        private void setName(int name, int named) {
            names.set(scope * NAMES + name, named);
        }

        /** The names that a FUNC or LATE looks at, as they are now, chained. */
        private int closeOver(int id) {
            int used = tree.namesUsed(id);
            int closed = NOTHING;
            for (int name = 0; name < NAMES; name++) {
                int named = names.get(scope * NAMES + name);
                if ((used >> name & 1) != 0 && named != UNNAMED) {
                    closed = heap.make(Heap.A_NAME, named, closed, name, 0);
                }
            }
            return closed;
        }

        // ---- expressions

        void begin() {
            int id = due;
            due = NONE;
            round.begun++;
            int number = files.number(id);
            int kind = files.kind(id);
            switch (kind) {
                case NUMBER:
                    value = number;
                    break;
                case NAME:
                    value = names.get(scope * NAMES + number % NAMES);
                    if (value == UNNAMED) {
                        value = wrong(UNKNOWN, id);
                    }
                    break;
                case FUNC:
                    value = heap.make(Heap.A_FUNCTION, closeOver(id), NOTHING, id, 0);
                    break;
                case LATE:
                    value = heap.make(Heap.A_LATE, closeOver(id), NOTHING, id, 0);
                    break;
                case NOW:
                case PAGE:
                    ask(id, question(kind, number % LABELS, number % COUNTERS));
                    break;
                case AT:
                case LAST:
                case COUNT:
                    ask(id, question(kind, number / COUNTERS % LABELS, number % COUNTERS));
                    break;
                case BLOCK:
                    openInnerScope();
                    openText(id);
                    break;
                default:
                    beginParts(id, kind);
            }
        }

        private void ask(int id, int question) {
            value = round.now.get(question);
            if (value == UNNAMED) {
                value = wrong(PLACE, id);
            } else {
                round.ask(question);
            }
        }

        private void beginParts(int id, int kind) {
            switch (kind) {
                case ADD:
                case SUB:
                case MUL:
                case LESS:
                case JOIN:
                case PAIR:
                    frames.push(Frames.TWO, id);
                    break;
                case IF:
                    frames.push(Frames.CHOICE, id);
                    break;
                case CALL:
                    frames.push(Frames.CALLING, id);
                    break;
                case IMPORT:
                    frames.push(Frames.IMPORTING, id);
                    break;
                case SET:
                case SHOW:
                    if (tree.isInBlock(id)) {
                        frames.push(Frames.ONE, id);
                    } else {
                        value = wrong(PLACE, id);
                    }
                    break;
                case LET:
                case HEAD:
                case STEP:
                case MEASURE:
                case PICK:
                    frames.push(Frames.ONE, id);
                    break;
                default:
                    value = WRONG;
            }
        }

        void stepTwo() {
            int id = frames.get(Frames.NODE);
            int stage = frames.get(Frames.STAGE);
            if (stage < 2) {
                frames.set(Frames.FIRST, value);
                frames.set(Frames.STAGE, stage + 1);
                due = tree.part(id, stage);
                return;
            }
            int first = frames.get(Frames.FIRST);
            frames.pop();
            int kind = files.kind(id);
            if (kind == JOIN) {
                int second = value;
                value = first;
                noteFunctions(tree.part(id, 0));
                value = second;
                noteFunctions(tree.part(id, 1));
                value = heap.join(first, second);
            } else if (kind == PAIR) {
                value = heap.pair(first, value);
            } else {
                value = reckon(id, first, value);
            }
        }

        private int reckon(int id, int first, int second) {
            if (first == WRONG || second == WRONG) {
                return WRONG;
            }
            if (!isNumber(first) || !isNumber(second)) {
                return wrong(KIND, id);
            }
            switch (files.kind(id)) {
                case ADD:
                    return bounded(first + second);
                case SUB:
                    return bounded(first - second);
                case MUL:
                    return bounded(first * second);
                default:
                    return first < second ? 1 : 0;
            }
        }

        void stepOne() {
            int id = frames.get(Frames.NODE);
            if (frames.get(Frames.STAGE) == 0) {
                frames.set(Frames.STAGE, 1);
                due = tree.part(id, 0);
                return;
            }
            frames.pop();
            int number = files.number(id);
            switch (files.kind(id)) {
                case LET:
                    setName(number % NAMES, value);
                    value = NOTHING;
                    break;
                case SET:
                    value = mend(id, isNumber(value));
                    addSetting(number % 2);
                    break;
                case SHOW:
                    value = mend(id, heap.get(value, Heap.WHAT) == Heap.A_FUNCTION);
                    addRule(id, number);
                    break;
                case HEAD:
                    noteFunctions(tree.part(id, 0));
                    value = heap.heading(value, id);
                    break;
                case STEP:
                    value = mend(id, isNumber(value));
                    if (value != WRONG) {
                        value = heap.make(Heap.A_STEP, NOTHING, NOTHING, number % COUNTERS, value);
                    }
                    break;
                case MEASURE:
                    noteFunctions(tree.part(id, 0));
                    value = heap.width(value, 1);
                    break;
                default:
                    value = mend(id, heap.get(value, Heap.WHAT) == Heap.A_PAIR);
                    if (value != WRONG) {
                        value = heap.get(value, number % 2 == 0 ? Heap.LEFT : Heap.RIGHT);
                    }
            }
        }

        /** The part's value, or WRONG with the fault that is due if it is of another kind than it has to be. */
        private int mend(int id, boolean isDue) {
            if (value == WRONG || isDue) {
                return value;
            }
            round.note(KIND, spot(id));
            return WRONG;
        }

        private void addSetting(int property) {
            if (value == WRONG) {
                return;
            }
            int set = property == 0 ? Math.max(1, Math.min(MOST_SIZE, value)) : Math.max(0, Math.min(MOST_INDENT, value));
            addMark(heap.make(Heap.A_SETTING, NOTHING, NOTHING, property, set));
            if (property == 0) {
                frames.setAt(text, Frames.SIZE_NEXT, set);
            }
        }

        private void addRule(int id, int shown) {
            if (value != WRONG) {
                addMark(heap.make(Heap.A_RULE, value, NOTHING, shown, id));
            }
        }

        /** Marks hold from the next item on: until then they wait in the frame of their text. */
        private void addMark(int mark) {
            frames.setAt(text, Frames.MARKS, heap.chain(frames.getAt(text, Frames.MARKS), mark));
            value = NOTHING;
        }

        void stepChoice() {
            int id = frames.get(Frames.NODE);
            if (frames.get(Frames.STAGE) == 0) {
                frames.set(Frames.STAGE, 1);
                due = tree.part(id, 0);
                return;
            }
            frames.pop();
            value = mend(id, isNumber(value));
            if (value != WRONG) {
                due = tree.part(id, value != 0 ? 1 : 2);
            }
        }

        void stepImport() {
            int id = frames.get(Frames.NODE);
            int number = files.number(id);
            int file = number / NAMES % FILES;
            if (frames.get(Frames.STAGE) == 0) {
                frames.set(Frames.STAGE, 1);
                frames.set(Frames.DEPTH, depth);
                int state = fileStates.get(file);
                if (state == RUNNING) {
                    frames.pop();
                    value = wrong(CIRCLE, id);
                } else if (state != RUN) {
                    depth = 0;
                    tree.read(file);
                    openScope(NOTHING);
                    openText(ROOTS + file);
                }
                return;
            }
            depth = frames.get(Frames.DEPTH);
            frames.pop();
            value = nameInFile(file, number % NAMES);
            if (value == UNNAMED) {
                value = wrong(UNKNOWN, id);
            }
        }

        // ---- calls

        void stepCall() {
            int id = frames.get(Frames.NODE);
            int stage = frames.get(Frames.STAGE);
            frames.set(Frames.STAGE, stage + 1);
            if (stage == 0) {
                due = tree.part(id, 0);
            } else if (stage == 1) {
                value = mend(id, heap.get(value, Heap.WHAT) == Heap.A_FUNCTION);
                if (value == WRONG) {
                    frames.pop();
                    return;
                }
                frames.set(Frames.FIRST, value);
                due = tree.part(id, 1);
            } else if (stage == 2) {
                takeTurn(id);
            } else {
                int nesting = leaveBody();
                if (frames.get(Frames.KEEPABLE) != 0 && frames.get(Frames.FAULTS) == round.faultCount) {
                    keep(nesting);
                }
                frames.pop();
            }
        }

        private void takeTurn(int id) {
            int function = frames.get(Frames.FIRST);
            if (value != WRONG && depth >= MOST_CALLS) {
                value = wrong(DEEP, id);
            } else if (value != WRONG && round.begun >= MOST_BEGUN) {
                value = wrong(LONG, id);
            }
            if (value == WRONG) {
                frames.pop();
                return;
            }
            boolean keepable = remembers && isNumber(value) && findNumbers(function);
            int record = keepable ? memory.find(heap.get(function, Heap.INFO), value, numbers, round, depth) : NONE;
            if (record != NONE) {
                frames.pop();
                take(record);
                return;
            }
            frames.set(Frames.KEEPABLE, keepable ? 1 : 0);
            enterBody(function, value);
        }

        /** Whether calls of the function can be kept; then the numbers are those that its body looks at. */
        private boolean findNumbers(int function) {
            int id = heap.get(function, Heap.INFO);
            if (tree.imports(id)) {
                return false;
            }
            numbers.fill(0, NAMES, UNNAMED);
            int bound = heap.get(function, Heap.LEFT);
            for (int left = NAMES; left > 0 && bound >= NODES; left--) {
                numbers.set(heap.get(bound, Heap.INFO), heap.get(bound, Heap.LEFT));
                bound = heap.get(bound, Heap.RIGHT);
            }
            int used = tree.namesUsed(id);
            for (int name = 0; name < NAMES; name++) {
                if ((used >> name & 1) != 0 && !isNumber(numbers.get(name))) {
                    return false;
                }
            }
            return true;
        }

        private void take(int record) {
            value = memory.value(record);
            deepest = Math.max(deepest, depth + 1 + memory.nesting(record));
            lastTurn = round.begun + memory.lastTurn(record);
            round.begun += memory.begun(record);
            round.out.callsTaken++;
            for (int question = 0; question < QUESTIONS; question++) {
                if (memory.isAsked(record, question)) {
                    round.ask(question);
                }
            }
        }

        /** Begins to run the body, for the innermost frame. */
        void enterBody(int function, int argument) {
            int id = heap.get(function, Heap.INFO);
            frames.set(Frames.FIRST, function);
            frames.set(Frames.ARGUMENT, argument);
            frames.set(Frames.ASKED, round.askedCount);
            frames.set(Frames.FAULTS, round.faultCount);
            frames.set(Frames.BEGUN, round.begun);
            frames.set(Frames.DEEPEST, deepest);
            depth++;
            deepest = depth;
            lastTurn = round.begun;
            round.out.callsRun++;
            openScope(heap.get(function, Heap.LEFT));
            int letName = tree.letName(id);
            if (letName != NONE) {
                setName(letName, function);
            }
            setName(files.number(id) % NAMES, argument);
            due = tree.part(id, 0);
        }

        /** Ends the body for the innermost frame; returns how many calls, one in the other, were in this one. */
        int leaveBody() {
            int nesting = deepest - depth;
            deepest = Math.max(deepest, frames.get(Frames.DEEPEST));
            depth--;
            scope--;
            return nesting;
        }

        private void keep(int nesting) {
            int function = frames.get(Frames.FIRST);
            if (!findNumbers(function)) {
                return;
            }
            int record = memory.add(heap.get(function, Heap.INFO), frames.get(Frames.ARGUMENT), value);
            if (record == NONE) {
                return;
            }
            int before = frames.get(Frames.BEGUN);
            memory.tellCourse(record, round.begun - before, nesting, lastTurn - before);
            memory.tellNumbers(record, numbers);
            memory.tellAnswers(record, round, frames.get(Frames.ASKED));
        }

        /** Begins to run the expression of a LATE. */
        void enterLate(int late) {
            openScope(heap.get(late, Heap.LEFT));
            due = tree.part(heap.get(late, Heap.INFO), 0);
        }

        void leaveLate() {
            scope--;
        }

        // ---- texts and formulas

        private void openText(int owner) {
            if (owner >= ROOTS) {
                fileStates.set(owner - ROOTS, RUNNING);
            }
            frames.push(Frames.TEXT, owner);
            frames.set(Frames.ITEM, tree.firstItem(owner));
            frames.set(Frames.SEQUENCE, NOTHING);
            frames.set(Frames.MARKS, NOTHING);
            frames.set(Frames.OUTER, text);
            text = frames.size() - 1;
        }

        void stepText() {
            int item = frames.get(Frames.ITEM);
            if (item == NONE) {
                closeText();
                return;
            }
            int kind = files.kind(item);
            if (frames.get(Frames.STAGE) == 0) {
                round.begun++;
                if (kind == CODE) {
                    frames.set(Frames.STAGE, 1);
                    due = tree.part(item, 0);
                    return;
                }
                if (kind == MATH) {
                    frames.set(Frames.STAGE, 1);
                    frames.push(Frames.FORMULA, item);
                    frames.set(Frames.ITEM, tree.firstItem(item));
                    return;
                }
                value = leaf(kind, files.number(item));
            } else if (kind == CODE) {
                noteFunctions(tree.part(item, 0));
            }
            append();
            applyMarks();
            frames.set(Frames.STAGE, 0);
            frames.set(Frames.ITEM, tree.nextItem(item));
        }

        private int leaf(int kind, int number) {
            if (kind == WORD) {
                return heap.word(number);
            }
            return heap.make(kind == BREAK ? Heap.A_BREAK : Heap.A_LABEL, NOTHING, NOTHING, number % LABELS, 0);
        }

        private void append() {
            if (!heap.isFilled(value)) {
                return;
            }
            frames.set(Frames.SEQUENCE, heap.chain(frames.get(Frames.SEQUENCE), value));
            frames.set(Frames.FILLED, 1);
            int set = frames.get(Frames.SIZE);
            for (int size = 1; size <= MOST_SIZE; size++) {
                int width = frames.get(Frames.WIDTH + size) + heap.width(value, set == 0 ? size : set);
                frames.set(Frames.WIDTH + size, Math.min(BOUND, width));
            }
        }

        private void applyMarks() {
            int marks = frames.get(Frames.MARKS);
            if (marks == NOTHING) {
                return;
            }
            frames.set(Frames.SEQUENCE, heap.chain(frames.get(Frames.SEQUENCE), marks));
            frames.set(Frames.MARKS, NOTHING);
            if (frames.get(Frames.SIZE_NEXT) != 0) {
                frames.set(Frames.SIZE, frames.get(Frames.SIZE_NEXT));
            }
        }

        private void closeText() {
            int file = frames.get(Frames.NODE) - ROOTS;
            if (file >= 0) {
                for (int name = 0; name < NAMES; name++) {
                    fileNames.set(file * NAMES + name, names.get(scope * NAMES + name));
                }
                fileStates.set(file, RUN);
            }
            value = EMPTY;
            if (frames.get(Frames.FILLED) != 0) {
                value = heap.make(Heap.A_SCOPE, frames.get(Frames.SEQUENCE), NOTHING, 0, 0);
                heap.withWidths(value, frames.get(Frames.WIDTH + 1), frames.get(Frames.WIDTH + 2), frames.get(Frames.WIDTH + 3));
            }
            text = frames.get(Frames.OUTER);
            scope--;
            frames.pop();
        }

        void stepFormula() {
            int item = frames.get(Frames.ITEM);
            int width = frames.get(Frames.WIDTH + 1);
            if (item == NONE) {
                frames.pop();
                value = heap.formula(width);
                return;
            }
            boolean isCode = files.kind(item) == CODE;
            if (frames.get(Frames.STAGE) == 0) {
                round.begun++;
                if (isCode) {
                    frames.set(Frames.STAGE, 1);
                    due = tree.part(item, 0);
                    return;
                }
            } else {
                noteFunctions(tree.part(item, 0));
            }
            frames.set(Frames.WIDTH + 1, Math.min(BOUND, width + (isCode ? heap.width(value, 1) : 1)));
            frames.set(Frames.STAGE, 0);
            frames.set(Frames.ITEM, tree.nextItem(item));
        }
    }

    /** Realizes content: lays words and formulas, counts, and asks the runner for what rules and LATEs come to. */
    private static final class Setter {
        private final Heap heap;
        private final Round round;
        private final Frames frames;
        private final Runner runner;
        private final Tree tree;
        /** The rules that hold, those of the innermost block last, and the SHOWs that are used up on the way. */
        private final Row rules = new Row();
        private final Row usedShows = new Row();
        private int ruleCount;
        private int within;
        private int size;
        private int indent;
        private int page;
        private int line;
        private int place;
        private int elements;
        private int pageWidth = 12;
        private int pageHeight = 4;

        Setter(Heap heap, Round round, Frames frames, Runner runner, Tree tree) {
            this.heap = heap;
            this.round = round;
            this.frames = frames;
            this.runner = runner;
            this.tree = tree;
        }

        int turnPage(int width, int height) {
            int before = pageWidth;
            pageWidth = width;
            pageHeight = height;
            return before;
        }

        void start(int content) {
            ruleCount = 0;
            within = 0;
            size = 1;
            indent = 0;
            page = 0;
            line = 0;
            place = 0;
            elements = 0;
            round.now.fill(ASK_NOW, COUNTERS, 0);
            frames.push(Frames.PIECE, content);
        }

        void stepPiece() {
            int piece = frames.get(Frames.NODE);
            frames.pop();
            if (isNumber(piece)) {
                realize(piece, Heap.A_WORD);
                return;
            }
            int what = heap.get(piece, Heap.WHAT);
            switch (what) {
                case Heap.A_JOIN:
                    pushBoth(piece);
                    break;
                case Heap.A_PAIR:
                    // pairs of nothing, doubled again and again, have too many ends to look at them all
                    if (heap.isFilled(piece)) {
                        pushBoth(piece);
                    }
                    break;
                case Heap.A_SCOPE:
                    frames.push(Frames.SCOPE, piece);
                    break;
                case Heap.A_SETTING:
                    if (heap.get(piece, Heap.INFO) == 0) {
                        size = heap.get(piece, Heap.MORE);
                    } else {
                        indent = heap.get(piece, Heap.MORE);
                    }
                    break;
                case Heap.A_RULE:
                    rules.set(ruleCount, piece);
                    ruleCount++;
                    break;
                default:
                    if (heap.isContent(piece) && piece != EMPTY) {
                        realize(piece, what);
                    }
            }
        }

        private void pushBoth(int piece) {
            frames.push(Frames.PIECE, heap.get(piece, Heap.RIGHT));
            frames.push(Frames.PIECE, heap.get(piece, Heap.LEFT));
        }

        private void realize(int piece, int what) {
            elements++;
            if (elements > MOST_ELEMENTS) {
                round.note(LONG, 0);
                frames.clear();
                return;
            }
            int info = heap.get(piece, Heap.INFO);
            switch (what) {
                case Heap.A_BREAK:
                    startLine();
                    break;
                case Heap.A_LABEL:
                    markLabel(info);
                    break;
                case Heap.A_STEP:
                    int counter = ASK_NOW + info;
                    round.now.set(counter, bounded(round.now.get(counter) + heap.get(piece, Heap.MORE)));
                    break;
                case Heap.A_LATE:
                    frames.push(Frames.LATER, piece);
                    break;
                default:
                    show(piece, what, isNumber(piece) ? 1000 + piece : info);
            }
        }

        private void markLabel(int label) {
            if (round.next.get(ASK_PAGE + label) != 0) {
                return;
            }
            round.next.set(ASK_PAGE + label, page + 1);
            for (int counter = 0; counter < COUNTERS; counter++) {
                round.next.set(label * COUNTERS + counter, round.now.get(ASK_NOW + counter));
            }
        }

        private void show(int piece, int what, int number) {
            int rule = findRule(what, number);
            if (rule != NONE) {
                frames.push(Frames.RULE, rule);
                frames.set(Frames.ELEMENT, isNumber(piece) ? heap.word(number) : piece);
            } else if (what == Heap.A_HEADING) {
                frames.push(Frames.HEADING, piece);
            } else if (what == Heap.A_FORMULA) {
                lay(2000 + number, number);
            } else {
                lay(number, size);
            }
        }

        /** The rule to use for an element, or NONE. Words that have numbers below 0 are not told by any SHOW. */
        private int findRule(int what, int number) {
            int shown = what == Heap.A_HEADING ? 0 : what == Heap.A_FORMULA ? 1 : number < 0 ? NONE : number + 2;
            for (int i = ruleCount - 1; i >= 0; i--) {
                int rule = rules.get(i);
                if (heap.get(rule, Heap.INFO) == shown && !isUsed(heap.get(rule, Heap.MORE))) {
                    return rule;
                }
            }
            return NONE;
        }

        private boolean isUsed(int show) {
            for (int i = 0; i < round.used; i++) {
                if (usedShows.get(i) == show) {
                    return true;
                }
            }
            return false;
        }

        private void lay(int number, int width) {
            if (place + width > pageWidth && place > indent) {
                startLine();
            }
            Result out = round.out;
            int at = out.thingCount * Result.THING_SIZE;
            out.things.set(at, number);
            out.things.set(at + 1, width);
            out.things.set(at + 2, page);
            out.things.set(at + 3, line);
            out.things.set(at + 4, place);
            out.things.set(at + 5, size);
            out.thingCount++;
            place += width;
            round.next.set(ASK_LAST, page + 1);
        }

        private void startLine() {
            line++;
            if (line >= pageHeight) {
                line = 0;
                page++;
            }
            place = indent;
        }

        void stepScope() {
            if (frames.get(Frames.STAGE) == 0) {
                frames.set(Frames.STAGE, 1);
                frames.set(Frames.SIZE_BEFORE, size);
                frames.set(Frames.INDENT_BEFORE, indent);
                frames.set(Frames.RULES_BEFORE, ruleCount);
                frames.push(Frames.PIECE, heap.get(frames.get(Frames.NODE), Heap.LEFT));
                return;
            }
            size = frames.get(Frames.SIZE_BEFORE);
            indent = frames.get(Frames.INDENT_BEFORE);
            ruleCount = frames.get(Frames.RULES_BEFORE);
            frames.pop();
        }

        void stepHeading() {
            int heading = frames.get(Frames.NODE);
            if (frames.get(Frames.STAGE) == 0) {
                frames.set(Frames.STAGE, 1);
                if (place > indent) {
                    startLine();
                }
                within++;
                if (within <= MOST_WITHIN) {
                    frames.push(Frames.PIECE, heap.get(heading, Heap.LEFT));
                } else {
                    round.note(DEEP, spot(heap.get(heading, Heap.INFO)));
                }
                return;
            }
            within--;
            startLine();
            round.next.set(ASK_COUNT, round.next.get(ASK_COUNT) + 1);
            frames.pop();
        }

        void stepRule() {
            int rule = frames.get(Frames.NODE);
            int show = heap.get(rule, Heap.MORE);
            int stage = frames.get(Frames.STAGE);
            frames.set(Frames.STAGE, stage + 1);
            if (stage == 0) {
                if (mayCome(show)) {
                    runner.enterBody(heap.get(rule, Heap.LEFT), frames.get(Frames.ELEMENT));
                } else {
                    frames.pop();
                }
            } else if (stage == 1) {
                runner.leaveBody();
                runner.noteFunctions(show);
                usedShows.set(round.used, show);
                round.used++;
                within++;
                frames.push(Frames.PIECE, runner.value);
            } else {
                round.used--;
                within--;
                frames.pop();
            }
        }

        void stepLater() {
            int late = frames.get(Frames.NODE);
            int id = heap.get(late, Heap.INFO);
            int stage = frames.get(Frames.STAGE);
            frames.set(Frames.STAGE, stage + 1);
            if (stage == 0) {
                if (mayCome(id)) {
                    runner.enterLate(late);
                } else {
                    frames.pop();
                }
            } else if (stage == 1) {
                runner.leaveLate();
                runner.noteFunctions(tree.part(id, 0));
                within++;
                frames.push(Frames.PIECE, runner.value);
            } else {
                within--;
                frames.pop();
            }
        }

        /** Whether what a rule or LATE comes to may still be run and realized; otherwise the fault is noted. */
        private boolean mayCome(int id) {
            if (within >= MOST_WITHIN) {
                round.note(DEEP, spot(id));
                return false;
            }
            if (round.begun >= MOST_BEGUN) {
                round.note(LONG, spot(id));
                return false;
            }
            return true;
        }
    }

    /** Compiles: rounds, each of them steps of the innermost frame until none is left. */
    private static final class Press {
        private final Memory memory = new Memory();
        private final Heap heap = new Heap();
        private final Round round = new Round();
        private final Frames frames = new Frames();
        private final Runner runner;
        private final Setter setter;

        Press(Files files) {
            Tree tree = new Tree(files, round);
            runner = new Runner(files, tree, heap, memory, round, frames);
            setter = new Setter(heap, round, frames, runner, tree);
        }

        int turnPage(int width, int height) {
            return setter.turnPage(width, height);
        }

        int countKept() {
            return memory.size();
        }

        void forget(int file) {
            if (memory.forget(file)) {
                heap.sweep(0, memory);
            }
        }

        void compileInto(Result out, boolean remembering) {
            out.callsRun = 0;
            out.callsTaken = 0;
            out.settled = false;
            out.rounds = 0;
            round.out = out;
            round.next.fill(0, ASK_NOW, 0);
            while (out.rounds < MOST_ROUNDS && !out.settled) {
                out.rounds++;
                round.start();
                runner.start(remembering);
                drive();
                setter.start(runner.value);
                drive();
                out.settled = round.next.startsLike(round.now, ASK_NOW);
                for (int name = 0; name < NAMES; name++) {
                    out.values.set(name, heap.code(runner.nameInFile(0, name)));
                }
                heap.sweepNew(memory);
            }
            out.answers.copyFrom(round.next, ASK_NOW);
        }

        private void drive() {
            for (int steps = 0; steps < MOST_STEPS && (runner.due != NONE || frames.size() > 0); steps++) {
                if (runner.due != NONE) {
                    runner.begin();
                    continue;
                }
                switch (frames.get(Frames.WHAT)) {
                    case Frames.TWO:
                        runner.stepTwo();
                        break;
                    case Frames.ONE:
                        runner.stepOne();
                        break;
                    case Frames.CHOICE:
                        runner.stepChoice();
                        break;
                    case Frames.CALLING:
                        runner.stepCall();
                        break;
                    case Frames.IMPORTING:
                        runner.stepImport();
                        break;
                    case Frames.TEXT:
                        runner.stepText();
                        break;
                    case Frames.FORMULA:
                        runner.stepFormula();
                        break;
                    case Frames.PIECE:
                        setter.stepPiece();
                        break;
                    case Frames.SCOPE:
                        setter.stepScope();
                        break;
                    case Frames.HEADING:
                        setter.stepHeading();
                        break;
                    case Frames.RULE:
                        setter.stepRule();
                        break;
                    default:
                        setter.stepLater();
                }
            }
        }
    }
}
