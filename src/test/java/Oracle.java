import java.util.ArrayList;
import java.util.HashMap;
import java.util.HashSet;
import java.util.List;
import java.util.Map;
import java.util.Set;
import java.util.TreeMap;

/**
 * The document's words once more, written as plainly as they are told: recursion, maps and trees of objects, none
 * of which RuneFlow uses. RandomRuns holds RuneFlow against it.
 */
final class Oracle {
    /** How often what is seldom was met, for RandomRuns to tell. */
    static final int[] met = new int[17];

    static final Object NOTHING = new Object();
    static final Object WRONG = new Object();

    static final class Node {
        int file;
        int place;
        int kind = -1;
        int number;
        boolean broken;
        Node let;
        Node[] parts = new Node[0];
        List<Node> items = new ArrayList<>();
    }

    static final class Func {
        Node node;
        Map<Integer, Object> names;
    }

    static final class Pair {
        Object first;
        Object second;
    }

    /** Content: what 'what' names. */
    static final class Content {
        char what;
        int number;
        int amount;
        Node node;
        Map<Integer, Object> names;
        Func rule;
        List<Content> parts = new ArrayList<>();

        Content(char what) {
            this.what = what;
        }
    }

    /** The way to what is realized. */
    static final class Way {
        int size = 1;
        int indent;
        int within;
        int usedCount;
        List<Content> rules = new ArrayList<>();
        Set<Integer> used = new HashSet<>();

        Way copy() {
            Way way = new Way();
            way.size = size;
            way.indent = indent;
            way.within = within;
            way.usedCount = usedCount;
            way.rules = new ArrayList<>(rules);
            way.used = new HashSet<>(used);
            return way;
        }
    }

    static final class Kept {
        int file;
        int place;
        Map<Integer, Integer> numbers;
        int argument;
        Map<String, Integer> answers = new HashMap<>();
        Object value;
        int begun;
        List<int[]> calls = new ArrayList<>();
        int startBegun;
        int startDepth;
        int startFaults;
    }

    static final class Full extends RuntimeException {
        private static final long serialVersionUID = 1L;
    }

    final List<List<int[]>> files = List.of(new ArrayList<>(), new ArrayList<>(), new ArrayList<>());
    int pageWidth = 12;
    int pageHeight = 4;
    List<Kept> memory = new ArrayList<>();
    boolean remembers = true;

    List<int[]> things = new ArrayList<>();
    List<Integer> faults = new ArrayList<>();
    Map<String, Integer> answers = new TreeMap<>();
    int[] values = {20005, 20005, 20005, 20005, 20005, 20005, 20005, 20005, 20005, 20005};
    int rounds;
    int ran;
    int taken;
    boolean compiled;
    boolean settled;

    // of a round
    private Map<String, Integer> given;
    private int begun;
    private int faultCount;
    private int depth;
    private boolean realizing;
    private int[] counters;
    private Map<Integer, Map<Integer, Object>> fileNames;
    private Set<Integer> fileRunning;
    private Way way;
    private int page;
    private int line;
    private int place;
    private int elements;
    private List<Kept> active;

    // ---- compiling

    Oracle anew() {
        Oracle other = new Oracle();
        for (int file = 0; file < 3; file++) {
            other.files.get(file).addAll(files.get(file));
        }
        other.pageWidth = pageWidth;
        other.pageHeight = pageHeight;
        other.remembers = false;
        other.compile();
        return other;
    }

    boolean isAsAnew() {
        if (!compiled) {
            return false;
        }
        Oracle other = anew();
        boolean same = other.faults.equals(faults) && other.things.size() == things.size();
        for (int i = 0; same && i < things.size(); i++) {
            same = java.util.Arrays.equals(things.get(i), other.things.get(i));
        }
        return same;
    }

    int compile() {
        ran = 0;
        taken = 0;
        compiled = true;
        given = new TreeMap<>();
        for (rounds = 1; ; rounds++) {
            round();
            settled = answers.equals(given);
            if (settled || rounds == 4) {
                met[13] += settled && rounds > 2 ? 1 : 0;
                met[14] += settled ? 0 : 1;
                return rounds;
            }
            given = answers;
        }
    }

    private void round() {
        things = new ArrayList<>();
        faults = new ArrayList<>();
        answers = new TreeMap<>();
        begun = 0;
        faultCount = 0;
        depth = 0;
        realizing = false;
        counters = new int[3];
        fileNames = new HashMap<>();
        fileRunning = new HashSet<>();
        way = new Way();
        page = 0;
        line = 0;
        place = 0;
        elements = 0;
        active = new ArrayList<>();
        Content content = runFile(0);
        for (int name = 0; name < 10; name++) {
            values[name] = code(fileNames.get(0).get(name));
        }
        realizing = true;
        try {
            realize(content);
        } catch (Full full) {
            note(6, 0, 0);
            met[4]++;
        }
    }

    static int code(Object value) {
        if (value == null) {
            return 20005;
        }
        if (value == WRONG) {
            return 20004;
        }
        if (value == NOTHING) {
            return 20003;
        }
        if (value instanceof Pair) {
            return 20002;
        }
        if (value instanceof Func) {
            return 20001;
        }
        return value instanceof Content ? 20000 : (Integer) value;
    }

    private void note(int code, int file, int at) {
        faultCount++;
        if (faults.size() < 60) {
            faults.add(100000 * code + 10000 * file + 100 * at + way.usedCount);
        }
    }

    private Object wrong(int code, Node node) {
        note(code, node.file, node.place);
        return WRONG;
    }

    // ---- reading

    private int readFile;
    private int readPlace;

    private int nextKind() {
        return readPlace < files.get(readFile).size() ? files.get(readFile).get(readPlace)[0] : -1;
    }

    private Node here() {
        Node node = new Node();
        node.file = readFile;
        node.place = readPlace;
        node.kind = nextKind();
        node.number = files.get(readFile).get(readPlace)[1];
        return node;
    }

    private List<Node> readText(boolean whole) {
        List<Node> items = new ArrayList<>();
        while (true) {
            int kind = nextKind();
            if (kind == -1) {
                if (!whole) {
                    note(2, readFile, readPlace);
                }
                return items;
            }
            if (kind == 5 && !whole) {
                readPlace++;
                return items;
            }
            if (kind >= 5) {
                note(1, readFile, readPlace++);
                continue;
            }
            Node item = here();
            readPlace++;
            items.add(item);
            if (kind == 3) {
                item.parts = new Node[] {readExpression(null)};
            } else if (kind == 4) {
                item.items = readFormula();
            }
        }
    }

    private List<Node> readFormula() {
        List<Node> items = new ArrayList<>();
        while (true) {
            int kind = nextKind();
            if (kind == -1) {
                note(2, readFile, readPlace);
                return items;
            }
            if (kind == 5) {
                readPlace++;
                return items;
            }
            if (kind == 0 || kind == 3) {
                Node item = here();
                readPlace++;
                items.add(item);
                if (kind == 3) {
                    item.parts = new Node[] {readExpression(null)};
                }
            } else {
                note(1, readFile, readPlace++);
            }
        }
    }

    private Node readExpression(Node let) {
        int kind = nextKind();
        if (kind < 6) {
            Node node = new Node();
            node.broken = true;
            note(kind == -1 ? 2 : 1, readFile, readPlace);
            if (kind != -1 && kind != 5) {
                readPlace++;
            }
            return node;
        }
        Node node = here();
        node.let = let;
        readPlace++;
        if (kind == 8) {
            node.items = readText(false);
            return node;
        }
        node.parts = new Node[parts(kind)];
        for (int i = 0; i < node.parts.length; i++) {
            node.parts[i] = readExpression(kind == 15 ? node : null);
        }
        return node;
    }

    private static int parts(int kind) {
        if (kind == 14) {
            return 3;
        }
        if (kind >= 9 && kind <= 13 || kind == 17 || kind == 30) {
            return 2;
        }
        return kind == 15 || kind == 16 || kind >= 18 && kind <= 22 || kind == 28 || kind == 31 ? 1 : 0;
    }

    // ---- running

    private Content runFile(int file) {
        fileRunning.add(file);
        readFile = file;
        readPlace = 0;
        List<Node> items = readText(true);
        Map<Integer, Object> names = new HashMap<>();
        Content content = runText(items, names);
        fileNames.put(file, names);
        fileRunning.remove(file);
        return content;
    }

    private Content runText(List<Node> items, Map<Integer, Object> names) {
        Content block = new Content('B');
        for (Node item : items) {
            begun++;
            if (item.kind == 3) {
                List<Content> marks = new ArrayList<>();
                Object value = run(item.parts[0], names, marks);
                block.parts.add(content(value, item.parts[0]));
                block.parts.addAll(marks);
            } else if (item.kind == 4) {
                block.parts.add(runFormula(item.items, names));
            } else {
                Content leaf = new Content("wbl".charAt(item.kind));
                leaf.number = item.kind == 2 ? item.number % 10 : item.number;
                block.parts.add(leaf);
            }
        }
        return block;
    }

    private Content runFormula(List<Node> items, Map<Integer, Object> names) {
        long width = 0;
        for (Node item : items) {
            begun++;
            if (item.kind == 0) {
                width++;
            } else {
                Object value = run(item.parts[0], names, null);
                width += width(content(value, item.parts[0]), new int[] {1});
            }
        }
        Content formula = new Content('f');
        formula.number = (int) Math.min(9999, width);
        return formula;
    }

    private Content content(Object value, Node at) {
        Content content = new Content('B');
        if (value instanceof Content) {
            return (Content) value;
        }
        if (value instanceof Integer) {
            content.what = 'w';
            content.number = 1000 + (Integer) value;
        } else if (value instanceof Pair) {
            content.what = 'J';
            content.parts.add(content(((Pair) value).first, at));
            content.parts.add(content(((Pair) value).second, at));
        } else if (value instanceof Func) {
            note(3, at.file, at.place);
        }
        return content;
    }

    /** The SIZE that is set is held in the row, so that a SET in a block can change it for what is behind. */
    private static long width(Content content, int[] size) {
        long width = 0;
        switch (content.what) {
            case 'w':
                return size[0];
            case 'f':
                return content.number;
            case 'h':
            case 'J':
                for (Content part : content.parts) {
                    width += width(part, size);
                }
                return Math.min(9999, width);
            case 'B':
                int[] inner = {size[0]};
                for (Content part : content.parts) {
                    width += width(part, inner);
                }
                return Math.min(9999, width);
            case 'S':
                if (content.number == 0) {
                    size[0] = content.amount;
                }
                return 0;
            default:
                return 0;
        }
    }

    private int ask(String question, int answer) {
        for (Kept call : active) {
            call.answers.put(question, answer);
        }
        return answer;
    }

    private int answered(String question) {
        return given.getOrDefault(question, 0);
    }

    /** Marks: where a SET or SHOW goes; null where there is no block. */
    private Object run(Node node, Map<Integer, Object> names, List<Content> marks) {
        begun++;
        if (node.broken) {
            return WRONG;
        }
        int number = node.number;
        Object a;
        Object b;
        switch (node.kind) {
            case 6:
                return number;
            case 7:
                return names.containsKey(number % 10) ? names.get(number % 10) : wrong(4, node);
            case 8:
                return runText(node.items, new HashMap<>(names));
            case 9:
            case 10:
            case 11:
            case 12:
                a = run(node.parts[0], names, marks);
                b = run(node.parts[1], names, marks);
                return reckon(node, a, b);
            case 13:
                a = run(node.parts[0], names, marks);
                b = run(node.parts[1], names, marks);
                Content both = new Content('J');
                both.parts.add(content(a, node.parts[0]));
                both.parts.add(content(b, node.parts[1]));
                return both;
            case 14:
                a = run(node.parts[0], names, marks);
                if (a == WRONG) {
                    return WRONG;
                }
                if (!(a instanceof Integer)) {
                    return wrong(3, node);
                }
                return run(node.parts[(Integer) a != 0 ? 1 : 2], names, marks);
            case 15:
                names.put(number % 10, run(node.parts[0], names, marks));
                return NOTHING;
            case 16:
                Func func = new Func();
                func.node = node;
                func.names = new HashMap<>(names);
                if (node.let != null) {
                    func.names.put(node.let.number % 10, func);
                }
                return func;
            case 17:
                return runCall(node, names, marks);
            case 18:
            case 19:
                return runMark(node, names, marks);
            case 20:
                a = run(node.parts[0], names, marks);
                Content heading = new Content('h');
                heading.node = node;
                heading.parts.add(content(a, node.parts[0]));
                return heading;
            case 21:
                a = run(node.parts[0], names, marks);
                if (a == WRONG) {
                    return WRONG;
                }
                if (!(a instanceof Integer)) {
                    return wrong(3, node);
                }
                Content step = new Content('s');
                step.number = number % 3;
                step.amount = (Integer) a;
                return step;
            case 22:
                Content late = new Content('t');
                late.node = node;
                late.names = new HashMap<>(names);
                return late;
            case 28:
                a = run(node.parts[0], names, marks);
                return (int) width(content(a, node.parts[0]), new int[] {1});
            case 30:
                Pair pair = new Pair();
                pair.first = run(node.parts[0], names, marks);
                pair.second = run(node.parts[1], names, marks);
                return pair;
            case 31:
                a = run(node.parts[0], names, marks);
                if (a == WRONG) {
                    return WRONG;
                }
                if (!(a instanceof Pair)) {
                    return wrong(3, node);
                }
                return number % 2 == 0 ? ((Pair) a).first : ((Pair) a).second;
            default:
                return runQuestion(node);
        }
    }

    private Object runQuestion(Node node) {
        int number = node.number;
        switch (node.kind) {
            case 23:
                return realizing ? ask("now" + number % 3, counters[number % 3]) : wrong(7, node);
            case 24:
                String at = "at" + number / 3 % 10 + "," + number % 3;
                return ask(at, answered(at));
            case 25:
                return ask("page" + number % 10, answered("page" + number % 10));
            case 26:
                return ask("last", answered("last"));
            case 27:
                return ask("count", answered("count"));
            default:
                int file = number / 10 % 3;
                if (fileRunning.contains(file)) {
                    return wrong(8, node);
                }
                if (!fileNames.containsKey(file)) {
                    int before = depth;
                    depth = 0;
                    runFile(file);
                    depth = before;
                }
                Object value = fileNames.get(file).get(number % 10);
                return value == null ? wrong(4, node) : value;
        }
    }

    private Object reckon(Node node, Object a, Object b) {
        if (a == WRONG || b == WRONG) {
            return WRONG;
        }
        if (!(a instanceof Integer) || !(b instanceof Integer)) {
            return wrong(3, node);
        }
        int x = (Integer) a;
        int y = (Integer) b;
        switch (node.kind) {
            case 9:
                return bound(x + y);
            case 10:
                return bound(x - y);
            case 11:
                return bound(x * y);
            default:
                return x < y ? 1 : 0;
        }
    }

    private static int bound(int number) {
        return number < -9999 ? -9999 : number > 9999 ? 9999 : number;
    }

    private Object runMark(Node node, Map<Integer, Object> names, List<Content> marks) {
        if (marks == null) {
            return wrong(7, node);
        }
        Object a = run(node.parts[0], names, marks);
        if (a == WRONG) {
            return WRONG;
        }
        if (node.kind == 18) {
            if (!(a instanceof Integer)) {
                return wrong(3, node);
            }
            Content set = new Content('S');
            set.number = node.number % 2;
            int least = set.number == 0 ? 1 : 0;
            set.amount = Math.max(least, Math.min(3, (Integer) a));
            marks.add(set);
            return NOTHING;
        }
        if (!(a instanceof Func)) {
            return wrong(3, node);
        }
        Content rule = new Content('R');
        rule.node = node;
        rule.number = node.number;
        rule.rule = (Func) a;
        marks.add(rule);
        return NOTHING;
    }

    // ---- calls

    private Object runCall(Node node, Map<Integer, Object> names, List<Content> marks) {
        Object f = run(node.parts[0], names, marks);
        if (f == WRONG) {
            return WRONG;
        }
        if (!(f instanceof Func)) {
            return wrong(3, node);
        }
        Object argument = run(node.parts[1], names, marks);
        if (argument == WRONG) {
            return WRONG;
        }
        return call((Func) f, argument, node, true);
    }

    private Object call(Func func, Object argument, Node at, boolean isCall) {
        if (depth >= 8) {
            met[8]++;
            return wrong(5, at);
        }
        if (begun >= 300) {
            met[isCall ? 9 : 10]++;
            return wrong(6, at);
        }
        Kept kept = isCall && remembers ? keepable(func, argument) : null;
        if (kept != null) {
            for (Kept other : memory) {
                if (isSame(other, kept)) {
                    if (fits(other)) {
                        met[0]++;
                        return take(other);
                    }
                    met[1]++;
                    break;
                }
            }
        }
        for (Kept call : active) {
            call.calls.add(new int[] {depth - call.startDepth, begun - call.startBegun});
        }
        Kept mine = kept == null ? new Kept() : kept;
        mine.startBegun = begun;
        mine.startDepth = depth;
        mine.startFaults = faultCount;
        mine.calls.add(new int[] {0, 0});
        active.add(mine);
        depth++;
        ran++;
        Map<Integer, Object> names = new HashMap<>(func.names);
        names.put(func.node.number % 10, argument);
        Object value = run(func.node.parts[0], names, null);
        depth--;
        active.remove(active.size() - 1);
        if (kept != null && faultCount == mine.startFaults && memory.size() < 60) {
            mine.value = value;
            mine.begun = begun - mine.startBegun;
            met[2] += mine.answers.toString().contains("now") ? 1 : 0;
            met[3] += memory.size() == 59 ? 1 : 0;
            memory.add(mine);
        }
        return value;
    }

    private Object take(Kept kept) {
        for (Kept call : active) {
            for (int[] inner : kept.calls) {
                call.calls.add(new int[] {depth - call.startDepth + inner[0], begun - call.startBegun + inner[1]});
            }
            call.answers.putAll(kept.answers);
        }
        begun += kept.begun;
        taken++;
        return kept.value;
    }

    private boolean fits(Kept kept) {
        for (int[] inner : kept.calls) {
            if (depth + inner[0] >= 8 || begun + inner[1] >= 300) {
                return false;
            }
        }
        return true;
    }

    private boolean isSame(Kept kept, Kept call) {
        if (kept.file != call.file || kept.place != call.place || kept.argument != call.argument || !kept.numbers.equals(call.numbers)) {
            return false;
        }
        met[16]++;
        for (Map.Entry<String, Integer> asked : kept.answers.entrySet()) {
            String question = asked.getKey();
            if (question.startsWith("now")) {
                if (!realizing || counters[question.charAt(3) - '0'] != asked.getValue()) {
                    return false;
                }
            } else if (answered(question) != asked.getValue()) {
                return false;
            }
        }
        met[16]--;
        return true;
    }

    private Kept keepable(Func func, Object argument) {
        if (!(argument instanceof Integer)) {
            return null;
        }
        Kept kept = new Kept();
        kept.file = func.node.file;
        kept.place = func.node.place;
        kept.argument = (Integer) argument;
        kept.numbers = new TreeMap<>();
        return look(func, func.node.parts[0], kept.numbers) ? kept : null;
    }

    private boolean look(Func func, Node node, Map<Integer, Integer> numbers) {
        if (node.kind == 29) {
            return false;
        }
        int name = node.number % 10;
        if (node.kind == 7 && name != func.node.number % 10 && (func.node.let == null || name != func.node.let.number % 10)) {
            Object value = func.names.get(name);
            if (!(value instanceof Integer)) {
                return false;
            }
            numbers.put(name, (Integer) value);
        }
        boolean good = true;
        for (Node part : node.parts) {
            good &= look(func, part, numbers);
        }
        for (Node item : node.items) {
            good &= look(func, item, numbers);
        }
        return good;
    }

    void forget(int file) {
        memory.removeIf(kept -> kept.file == file);
    }

    // ---- realizing

    private void newLine() {
        line++;
        if (line == pageHeight) {
            line = 0;
            page++;
        }
        place = way.indent;
    }

    private void realize(Content content) {
        switch (content.what) {
            case 'J':
                for (Content part : content.parts) {
                    realize(part);
                }
                return;
            case 'B':
                Way around = way;
                way = around.copy();
                for (Content part : content.parts) {
                    realize(part);
                }
                way = around;
                return;
            case 'S':
                if (content.number == 0) {
                    way.size = content.amount;
                } else {
                    way.indent = content.amount;
                }
                return;
            case 'R':
                way.rules.add(content);
                return;
            default:
                elements++;
                if (elements > 200) {
                    throw new Full();
                }
                realizeElement(content);
        }
    }

    private void realizeElement(Content element) {
        switch (element.what) {
            case 'b':
                newLine();
                return;
            case 'l':
                if (!answers.containsKey("page" + element.number)) {
                    answers.put("page" + element.number, page + 1);
                    for (int i = 0; i < 3; i++) {
                        tell("at" + element.number + "," + i, counters[i]);
                    }
                }
                return;
            case 's':
                met[15] += Math.abs(counters[element.number] + element.amount) > 9999 ? 1 : 0;
                counters[element.number] = bound(counters[element.number] + element.amount);
                return;
            case 't':
                realizeLate(element);
                return;
            default:
                Content rule = rule(element);
                if (rule != null) {
                    realizeByRule(element, rule);
                } else if (element.what == 'h') {
                    realizeHeading(element);
                } else {
                    lay(element);
                }
        }
    }

    /** Answers that are 0 are not told, so that what is told can be compared with what was. */
    private void tell(String question, int answer) {
        if (answer != 0) {
            answers.put(question, answer);
        }
    }

    private Content rule(Content element) {
        for (int i = way.rules.size() - 1; i >= 0; i--) {
            Content rule = way.rules.get(i);
            boolean fits = rule.number == 0 ? element.what == 'h' : rule.number == 1 ? element.what == 'f'
                : element.what == 'w' && element.number == rule.number - 2;
            if (fits && !way.used.contains(100 * rule.node.file + rule.node.place)) {
                return rule;
            }
        }
        return null;
    }

    private void realizeByRule(Content element, Content rule) {
        if (way.within >= 12) {
            wrong(5, rule.node);
            met[5]++;
            return;
        }
        met[12] += way.usedCount > 0 ? 1 : 0;
        Object value = call(rule.rule, element, rule.node, false);
        Content content = content(value, rule.node);
        Way around = way;
        way = around.copy();
        way.within++;
        way.usedCount++;
        way.used.add(100 * rule.node.file + rule.node.place);
        realize(content);
        way = around;
    }

    private void realizeHeading(Content heading) {
        if (place > way.indent) {
            newLine();
        }
        if (way.within >= 12) {
            wrong(5, heading.node);
            met[6]++;
        } else {
            Way around = way;
            way = around.copy();
            way.within++;
            realize(heading.parts.get(0));
            way = around;
        }
        newLine();
        answers.merge("count", 1, Integer::sum);
    }

    private void realizeLate(Content late) {
        if (way.within >= 12) {
            wrong(5, late.node);
            met[7]++;
            return;
        }
        if (begun >= 300) {
            wrong(6, late.node);
            met[11]++;
            return;
        }
        Object value = run(late.node.parts[0], new HashMap<>(late.names), null);
        Content content = content(value, late.node.parts[0]);
        Way around = way;
        way = around.copy();
        way.within++;
        realize(content);
        way = around;
    }

    private void lay(Content element) {
        boolean word = element.what == 'w';
        int width = word ? way.size : element.number;
        if (place + width > pageWidth && place > way.indent) {
            newLine();
        }
        things.add(new int[] {word ? element.number : 2000 + element.number, width, page, line, place, way.size});
        place += width;
        answers.put("last", page + 1);
    }
}
