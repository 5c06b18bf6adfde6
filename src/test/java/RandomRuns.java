import java.util.ArrayList;
import java.util.List;
import java.util.Random;

/** Runs of calls on documents made at random, each answer held against the Oracle. The seeds are fixed. */
public final class RandomRuns {
    private static int wrong = 0;
    private static int calls = 0;
    private static int[] seen = new int[9];
    private static int usedSome;

    private final Random random;
    private final RuneFlow flow = new RuneFlow();
    private final Oracle oracle = new Oracle();
    private final StringBuilder log = new StringBuilder();
    private List<int[]> tokens;
    private int noise;
    private boolean tidy;
    private boolean library;
    private boolean ruled;
    private int names;

    private RandomRuns(long seed) {
        // seeds side by side would begin alike
        random = new Random(seed * 0x9E3779B97F4A7C15L);
    }

    public static void main(String[] arguments) {
        int runs = arguments.length > 0 ? Integer.parseInt(arguments[0]) : 4000;
        long first = arguments.length > 1 ? Long.parseLong(arguments[1]) : 1;
        for (long seed = first; seed < first + runs && wrong == 0; seed++) {
            RandomRuns run = new RandomRuns(seed);
            run.play();
            if (wrong != 0) {
                System.out.println("seed " + seed + "\n" + run.log);
            }
        }
        String[] met = {"taken", "not taken: deep or long", "kept with a NOW", "60 kept", "201st element", "deep rule", "deep heading", "deep LATE", "deep call",
            "long call", "long rule", "long LATE", "rule in rule", "settled behind two rounds", "unsettled", "counter at a bound", "other answers than kept"};
        for (int i = 0; i < met.length; i++) {
            System.out.println(met[i] + ": " + Oracle.met[i]);
        }
        System.out.println(calls + " calls, " + wrong + " wrong; faults seen by code " + java.util.Arrays.toString(seen) + "; below rules " + usedSome);
        for (int code = 1; code <= 8; code++) {
            wrong += seen[code] == 0 && runs >= 4000 ? 1 : 0;
        }
        if (wrong != 0) {
            System.exit(1);
        }
    }

    private void due(String call, long got, long want) {
        calls++;
        log.append(call).append(" -> ").append(got);
        if (got != want) {
            wrong++;
            log.append("   DUE ").append(want);
        }
        log.append('\n');
    }

    private void play() {
        tidy = random.nextInt(2) == 0;
        library = tidy && random.nextInt(2) == 0;
        ruled = tidy && !library && random.nextInt(2) == 0;
        noise = random.nextInt(8) == 0 ? 15 : random.nextInt(2) == 0 ? 0 : 200;
        names = 2 + random.nextInt(4);
        for (int file = 0; file < 3; file++) {
            if (file == 0 || file == 1 && library || random.nextInt(3) == 0) {
                write(file);
            }
        }
        int steps = 1 + random.nextInt(library ? 40 : 12);
        for (int step = 0; step < steps && wrong == 0; step++) {
            if (random.nextInt(4) == 0) {
                int width = 3 + random.nextInt(28);
                int height = 1 + random.nextInt(10);
                due("setPage(" + width + ", " + height + ")", flow.setPage(width, height), oracle.pageWidth);
                oracle.pageWidth = width;
                oracle.pageHeight = height;
            }
            if (step > 0 && random.nextInt(8) == 0) {
                due("isAsAnew", flow.isAsAnew() ? 1 : 0, oracle.isAsAnew() ? 1 : 0);
            }
            look();
            for (int i = random.nextInt(4); i > 0 && step > 0; i--) {
                edit();
            }
        }
    }

    private void edit() {
        int file = random.nextInt(4) == 0 ? random.nextInt(3) : random.nextInt(2);
        if (library && random.nextInt(30) > 0) {
            file = 0;
        }
        List<int[]> own = oracle.files.get(file);
        int place = random.nextInt(own.size() + 1);
        if (library && random.nextInt(8) > 0 && place < own.size()) {
            int[] token = own.get(place);
            cut(file, place);
            put(file, place, token[0], token[0] == RuneFlow.NUMBER ? random.nextInt(100) : token[1]);
            return;
        }
        if (place < own.size() && random.nextInt(2) == 0) {
            int[] token = own.get(place);
            cut(file, place);
            if (random.nextInt(3) > 0) {
                put(file, place, token[0], random.nextInt(3) == 0 ? random.nextInt(100) : small());
            }
        } else if (own.size() < 60) {
            put(file, place, random.nextInt(32), small());
        }
    }

    private void cut(int file, int place) {
        int[] token = oracle.files.get(file).remove(place);
        oracle.forget(file);
        due("cut(" + file + ", " + place + ")", flow.cut(file, place), 100 * token[0] + token[1]);
    }

    private void put(int file, int place, int kind, int number) {
        oracle.files.get(file).add(place, new int[] {kind, number});
        oracle.forget(file);
        due("put(" + file + ", " + place + ", " + kind + ", " + number + ")", flow.put(file, place, kind, number), oracle.files.get(file).size());
    }

    private void look() {
        due("compile()", flow.compile(), oracle.compile());
        due("isSettled()", flow.isSettled() ? 1 : 0, oracle.settled ? 1 : 0);
        due("ran()", flow.ran(), oracle.ran);
        due("taken()", flow.taken(), oracle.taken);
        due("kept()", flow.kept(), oracle.memory.size());
        due("laid()", flow.laid(), oracle.things.size());
        for (int i = 0; i < oracle.things.size() && i < flow.laid(); i++) {
            for (int what = 0; what < 6; what++) {
                due("thing(" + i + ", " + what + ")", flow.thing(i, what), oracle.things.get(i)[what]);
            }
        }
        due("faults()", flow.faults(), oracle.faults.size());
        for (int i = 0; i < oracle.faults.size() && i < flow.faults(); i++) {
            due("fault(" + i + ")", flow.fault(i), oracle.faults.get(i));
            seen[oracle.faults.get(i) / 100000]++;
            usedSome += oracle.faults.get(i) % 100 > 0 ? 1 : 0;
        }
        for (int label = 0; label < 10; label++) {
            for (int counter = 0; counter < 3; counter++) {
                due("answer(24, " + label + ", " + counter + ")", flow.answer(24, label, counter), oracle.answers.getOrDefault("at" + label + "," + counter, 0));
            }
            due("answer(25, " + label + ", 0)", flow.answer(25, label, 0), oracle.answers.getOrDefault("page" + label, 0));
        }
        due("answer(26, 0, 0)", flow.answer(26, 0, 0), oracle.answers.getOrDefault("last", 0));
        due("answer(27, 0, 0)", flow.answer(27, 0, 0), oracle.answers.getOrDefault("count", 0));
        for (int name = 0; name < 10; name++) {
            due("valueOf(" + name + ")", flow.valueOf(name), oracle.values[name]);
        }
        due("isAsAnew()", flow.isAsAnew() ? 1 : 0, 1);
    }

    // ---- documents at random

    private int small() {
        return random.nextInt(names);
    }

    private void write(int file) {
        if (tidy) {
            TidyDocument document = new TidyDocument(random, 30 + random.nextInt(31));
            if (ruled) {
                document.writeRules();
            } else if (!library) {
                document.write();
            } else if (file == 1) {
                document.writeLibrary();
            } else {
                document.writeCaller();
            }
            tokens = document.tokens;
        } else {
            writeWild();
        }
        for (int place = 0; place < tokens.size() && place < 60; place++) {
            put(file, place, tokens.get(place)[0], tokens.get(place)[1]);
        }
    }

    private void writeWild() {
        tokens = new ArrayList<>();
        int most = 10 + random.nextInt(51);
        if (random.nextInt(3) > 0) {
            prelude();
        }
        while (tokens.size() < most) {
            item(most);
        }
    }

    /** Names that have values, so that what comes looks at more than faults. */
    private void prelude() {
        for (int name = 2; name < 5; name++) {
            add(RuneFlow.CODE, 0);
            add(RuneFlow.LET, name);
            if (random.nextInt(3) > 0) {
                number();
            } else {
                block(12);
            }
        }
        add(RuneFlow.CODE, 0);
        if (random.nextInt(2) == 0) {
            recursion(0, 2, 25);
        } else {
            add(RuneFlow.LET, 0);
            function(25);
        }
    }

    private void add(int kind, int number) {
        if (noise > 0 && random.nextInt(noise) == 0) {
            tokens.add(new int[] {random.nextInt(32), random.nextInt(100)});
        }
        tokens.add(new int[] {kind, number});
    }

    private void item(int most) {
        int choice = random.nextInt(17);
        if (choice >= 14) {
            pattern(most);
        } else if (choice < 3) {
            add(RuneFlow.WORD, small());
        } else if (choice == 3) {
            add(RuneFlow.BREAK, 0);
        } else if (choice == 4) {
            add(RuneFlow.LABEL, small());
        } else if (choice == 5) {
            formula(most);
        } else if (choice == 6) {
            add(RuneFlow.CODE, 0);
            add(RuneFlow.LET, small());
            function(most);
        } else if (choice == 7) {
            add(RuneFlow.CODE, 0);
            add(RuneFlow.SHOW, random.nextInt(5));
            function(most);
        } else if (choice == 8) {
            add(RuneFlow.CODE, 0);
            call(most);
        } else {
            add(RuneFlow.CODE, 0);
            expression(most);
        }
    }

    private void formula(int most) {
        add(RuneFlow.MATH, 0);
        for (int i = random.nextInt(3); i > 0; i--) {
            if (random.nextInt(2) == 0) {
                add(RuneFlow.WORD, small());
            } else {
                add(RuneFlow.CODE, 0);
                expression(most - 5);
            }
        }
        add(RuneFlow.END, 0);
    }

    /** Things that random expressions seldom come to: recursion, growth, rules in rules, answers that change answers. */
    private void pattern(int most) {
        int f = random.nextInt(2);
        int x = 2 + random.nextInt(2);
        switch (random.nextInt(8)) {
            case 0:
                add(RuneFlow.CODE, 0);
                recursion(f, x, most);
                add(RuneFlow.CODE, 0);
                callWith(f, random.nextInt(10));
                break;
            case 1:
                for (int i = 2 + random.nextInt(4); i > 0; i--) {
                    add(RuneFlow.CODE, 0);
                    add(RuneFlow.LET, x);
                    add(random.nextInt(4) == 0 ? RuneFlow.PAIR : RuneFlow.JOIN, 0);
                    add(RuneFlow.NAME, x);
                    add(RuneFlow.NAME, x);
                }
                add(RuneFlow.CODE, 0);
                add(RuneFlow.NAME, x);
                break;
            case 2:
                showing(x, most);
                break;
            case 3:
                add(RuneFlow.CODE, 0);
                add(RuneFlow.LET, f);
                add(RuneFlow.FUNC, x);
                add(random.nextInt(3) == 0 ? RuneFlow.HEAD : RuneFlow.LATE, 0);
                add(RuneFlow.JOIN, 0);
                expression(most - 5);
                callWith(f, random.nextInt(3));
                add(RuneFlow.CODE, 0);
                callWith(f, random.nextInt(3));
                break;
            case 4:
                add(RuneFlow.CODE, 0);
                add(RuneFlow.IF, 0);
                add(RuneFlow.LESS, 0);
                add(RuneFlow.AT + random.nextInt(4), small());
                number();
                block(most);
                block(most);
                break;
            case 5:
                add(RuneFlow.CODE, 0);
                add(RuneFlow.LET, x);
                block(most);
                break;
            case 6:
                add(RuneFlow.CODE, 0);
                add(random.nextInt(2) == 0 ? RuneFlow.LATE : RuneFlow.MEASURE, 0);
                callWith(f, random.nextInt(10));
                break;
            default:
                for (int i = 1 + random.nextInt(4); i > 0; i--) {
                    add(RuneFlow.CODE, 0);
                    callWith(f, random.nextInt(30));
                }
        }
    }

    private void showing(int x, int most) {
        add(RuneFlow.CODE, 0);
        add(RuneFlow.SHOW, random.nextInt(5));
        add(RuneFlow.FUNC, x);
        add(RuneFlow.BLOCK, 0);
        for (int i = random.nextInt(4); i > 0 && tokens.size() < most; i--) {
            item(most - 3);
        }
        add(RuneFlow.CODE, 0);
        add(RuneFlow.NAME, x);
        add(RuneFlow.END, 0);
    }

    private void recursion(int f, int x, int most) {
        int kind = random.nextInt(4) == 0 ? RuneFlow.PAIR : random.nextInt(2) == 0 ? RuneFlow.JOIN : RuneFlow.ADD;
        add(RuneFlow.LET, f);
        add(RuneFlow.FUNC, x);
        add(RuneFlow.IF, 0);
        add(RuneFlow.LESS, 0);
        add(RuneFlow.NUMBER, random.nextInt(3));
        add(RuneFlow.NAME, x);
        add(kind, 0);
        callLess(f, x);
        if (random.nextInt(2) == 0) {
            callLess(f, x);
        } else {
            expression(most - 3);
        }
        expression(most);
    }

    private void callLess(int f, int x) {
        add(RuneFlow.CALL, 0);
        add(RuneFlow.NAME, f);
        add(RuneFlow.SUB, 0);
        add(RuneFlow.NAME, x);
        add(RuneFlow.NUMBER, 1 + random.nextInt(2));
    }

    private void callWith(int f, int argument) {
        add(RuneFlow.CALL, 0);
        add(RuneFlow.NAME, f);
        add(RuneFlow.NUMBER, argument);
    }

    private void block(int most) {
        add(RuneFlow.BLOCK, 0);
        for (int i = random.nextInt(4); i > 0 && tokens.size() < most; i--) {
            item(most - 3);
        }
        add(RuneFlow.END, 0);
    }

    private void function(int most) {
        add(RuneFlow.FUNC, small());
        expression(most - 1);
    }

    private void call(int most) {
        add(RuneFlow.CALL, 0);
        if (random.nextInt(5) == 0) {
            function(most - 3);
        } else {
            add(RuneFlow.NAME, small());
        }
        if (random.nextInt(3) > 0) {
            number();
        } else {
            expression(most - 2);
        }
    }

    private void number() {
        add(RuneFlow.NUMBER, random.nextInt(6) == 0 ? random.nextInt(100) : small());
    }

    private void expression(int most) {
        if (tokens.size() >= most) {
            small(random.nextInt(6));
            return;
        }
        switch (random.nextInt(24)) {
            case 0:
            case 1:
                two(9 + random.nextInt(4), most);
                break;
            case 2:
            case 3:
                two(RuneFlow.JOIN, most);
                break;
            case 4:
                two(RuneFlow.PAIR, most);
                break;
            case 5:
                add(RuneFlow.PICK, random.nextInt(2));
                two(RuneFlow.PAIR, most);
                break;
            case 6:
            case 7:
                add(RuneFlow.IF, 0);
                expression(most - 4);
                expression(most - 2);
                expression(most);
                break;
            case 8:
                add(RuneFlow.LET, small());
                expression(most);
                break;
            case 9:
            case 10:
            case 11:
                call(most);
                break;
            case 12:
            case 13:
            case 14:
                block(most);
                break;
            case 15:
                add(RuneFlow.SET, random.nextInt(2));
                number();
                break;
            case 16:
                add(RuneFlow.SHOW, random.nextInt(5));
                function(most);
                break;
            case 17:
                add(RuneFlow.HEAD, 0);
                expression(most);
                break;
            case 18:
                add(RuneFlow.STEP, random.nextInt(3));
                expression(most);
                break;
            case 19:
                add(RuneFlow.LATE, 0);
                expression(most);
                break;
            case 20:
                add(RuneFlow.MEASURE, 0);
                expression(most);
                break;
            case 21:
                add(RuneFlow.IMPORT, 10 * random.nextInt(3) + small());
                break;
            default:
                small(random.nextInt(6));
        }
    }

    private void two(int kind, int most) {
        add(kind, 0);
        expression(most - 3);
        expression(most);
    }

    private void small(int choice) {
        if (choice < 2) {
            add(RuneFlow.NAME, small());
        } else if (choice == 2) {
            number();
        } else if (choice == 3) {
            add(RuneFlow.NOW, random.nextInt(3));
        } else if (choice == 4) {
            add(RuneFlow.AT + random.nextInt(4), random.nextInt(100));
        } else {
            add(RuneFlow.AT + random.nextInt(2), small());
        }
    }
}
