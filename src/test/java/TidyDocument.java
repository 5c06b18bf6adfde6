import java.util.ArrayList;
import java.util.List;
import java.util.Random;

/**
 * A document made at random that seldom has faults: the names 0 and 1 are functions of a number to a number and to
 * content, 2 and 3 are numbers, 4 is content. So rules, LATEs, rounds and the memory come to be used deeply.
 */
final class TidyDocument {
    private final Random random;
    private final int most;
    final List<int[]> tokens = new ArrayList<>();

    TidyDocument(Random random, int most) {
        this.random = random;
        this.most = most;
    }

    void write() {
        names();
        if (random.nextInt(4) > 0) {
            numberFunction();
        }
        if (random.nextInt(4) > 0) {
            contentFunction();
        }
        while (tokens.size() < most) {
            item(false);
        }
    }

    /** The functions alone, for another file that imports them. */
    void writeLibrary() {
        names();
        numberFunction();
        contentFunction();
    }

    /** A document that has its functions from the library in the file 1. */
    void writeCaller() {
        for (int name = 0; name < 2; name++) {
            code();
            add(RuneFlow.LET, name);
            add(RuneFlow.IMPORT, 10 + name);
        }
        names();
        while (tokens.size() < most) {
            if (random.nextInt(2) == 0) {
                item(false);
            } else {
                code();
                add(RuneFlow.CALL, 0);
                add(RuneFlow.NAME, random.nextInt(2));
                add(RuneFlow.NUMBER, random.nextInt(100));
            }
        }
    }

    /** A document of rules in rules, up to the depth that is allowed, with faults below them and much to lay. */
    void writeRules() {
        int shows = 2 + random.nextInt(4);
        for (int i = 0; i < shows; i++) {
            code();
            add(RuneFlow.SHOW, random.nextInt(6));
            add(RuneFlow.FUNC, 4);
            int within = random.nextInt(3) == 0 ? random.nextInt(7) : 0;
            for (int j = 0; j < within; j++) {
                add(random.nextInt(4) > 0 ? RuneFlow.HEAD : RuneFlow.LATE, 0);
            }
            add(RuneFlow.BLOCK, 0);
            shown();
            add(RuneFlow.END, 0);
        }
        if (random.nextInt(2) == 0) {
            code();
            add(RuneFlow.LET, 4);
            block(false);
            int doublings = random.nextInt(8);
            for (int i = 0; i < doublings; i++) {
                code();
                add(RuneFlow.LET, 4);
                add(random.nextInt(3) == 0 ? RuneFlow.PAIR : RuneFlow.JOIN, 0);
                add(RuneFlow.NAME, 4);
                add(RuneFlow.NAME, 4);
            }
        }
        while (tokens.size() < most) {
            shown();
        }
    }

    private void shown() {
        int count = 1 + random.nextInt(3);
        for (int i = 0; i < count; i++) {
            switch (random.nextInt(10)) {
                case 0:
                    add(RuneFlow.MATH, 0);
                    add(RuneFlow.WORD, 1);
                    add(RuneFlow.END, 0);
                    break;
                case 1:
                case 2:
                    code();
                    add(RuneFlow.HEAD, 0);
                    add(RuneFlow.NAME, 4);
                    break;
                case 3:
                    code();
                    add(RuneFlow.LATE, 0);
                    add(RuneFlow.NAME, 4 + random.nextInt(2));
                    break;
                case 4:
                case 5:
                    code();
                    add(RuneFlow.NAME, 4);
                    break;
                case 6:
                    code();
                    add(RuneFlow.STEP, 1);
                    add(RuneFlow.MUL, 0);
                    add(RuneFlow.NUMBER, 99);
                    add(RuneFlow.NUMBER, 99);
                    break;
                default:
                    add(RuneFlow.WORD, random.nextInt(4));
            }
        }
    }

    private void add(int kind, int number) {
        tokens.add(new int[] {kind, number});
    }

    private boolean full() {
        return tokens.size() + 6 > most;
    }

    private void names() {
        code();
        add(RuneFlow.LET, 2);
        add(RuneFlow.NUMBER, random.nextInt(8));
        code();
        add(RuneFlow.LET, 3);
        add(RuneFlow.AT + random.nextInt(4), random.nextInt(6));
        code();
        add(RuneFlow.LET, 4);
        block(false);
    }

    private void code() {
        add(RuneFlow.CODE, 0);
    }

    private void numberFunction() {
        code();
        add(RuneFlow.LET, 0);
        add(RuneFlow.FUNC, 2 + random.nextInt(2));
        add(RuneFlow.IF, 0);
        add(RuneFlow.NAME, 2);
        if (random.nextInt(2) == 0) {
            add(RuneFlow.ADD, 0);
            less(0);
        }
        if (random.nextInt(2) == 0) {
            less(0);
        } else {
            number(false);
        }
        number(false);
    }

    private void contentFunction() {
        code();
        add(RuneFlow.LET, 1);
        add(RuneFlow.FUNC, 2 + random.nextInt(2));
        add(RuneFlow.IF, 0);
        add(RuneFlow.NAME, 2);
        int choice = random.nextInt(4);
        if (choice == 0) {
            add(RuneFlow.LATE, 0);
            less(1);
        } else if (choice == 1) {
            add(RuneFlow.HEAD, 0);
            less(1);
        } else {
            add(RuneFlow.JOIN, 0);
            less(1);
            content(choice == 2);
        }
        content(false);
    }

    private void less(int function) {
        add(RuneFlow.CALL, 0);
        add(RuneFlow.NAME, function);
        add(RuneFlow.SUB, 0);
        add(RuneFlow.NAME, 2);
        add(RuneFlow.NUMBER, 1);
    }

    private void item(boolean late) {
        int choice = random.nextInt(14);
        if (choice < 4) {
            leaf();
        } else if (choice < 6) {
            code();
            show(late);
        } else if (choice == 6) {
            code();
            add(RuneFlow.SET, random.nextInt(2));
            number(late);
        } else if (choice == 7) {
            code();
            boolean isContent = random.nextInt(2) == 0;
            add(RuneFlow.LET, isContent ? 4 : 2 + random.nextInt(2));
            if (isContent) {
                content(late);
            } else {
                number(late);
            }
        } else if (choice == 8) {
            add(RuneFlow.MATH, 0);
            for (int i = random.nextInt(3); i > 0; i--) {
                leafOfFormula(late);
            }
            add(RuneFlow.END, 0);
        } else if (choice == 9) {
            code();
            number(late);
        } else {
            code();
            content(late);
        }
    }

    private void leaf() {
        int kind = random.nextInt(6);
        add(kind == 4 ? RuneFlow.BREAK : kind == 5 ? RuneFlow.LABEL : RuneFlow.WORD, random.nextInt(3));
    }

    private void leafOfFormula(boolean late) {
        if (random.nextInt(2) == 0) {
            add(RuneFlow.WORD, 1);
        } else {
            code();
            content(late);
        }
    }

    private void show(boolean late) {
        add(RuneFlow.SHOW, random.nextInt(5));
        add(RuneFlow.FUNC, 4);
        content(late);
    }

    private void block(boolean late) {
        add(RuneFlow.BLOCK, 0);
        for (int i = 1 + random.nextInt(3); i > 0; i--) {
            if (full()) {
                leaf();
            } else {
                item(late);
            }
        }
        add(RuneFlow.END, 0);
    }

    private void number(boolean late) {
        int choice = full() ? 3 + random.nextInt(6) : random.nextInt(12);
        switch (choice) {
            case 0:
                add(RuneFlow.ADD + random.nextInt(4), 0);
                number(late);
                number(late);
                break;
            case 1:
                add(RuneFlow.IF, 0);
                number(late);
                number(late);
                number(late);
                break;
            case 2:
                add(RuneFlow.MEASURE, 0);
                content(late);
                break;
            case 3:
                add(late ? RuneFlow.NOW : RuneFlow.LAST, random.nextInt(3));
                break;
            case 4:
            case 5:
                add(RuneFlow.AT + random.nextInt(4), random.nextInt(9));
                break;
            case 6:
                add(RuneFlow.NUMBER, random.nextInt(12));
                break;
            case 7:
            case 8:
                add(RuneFlow.NAME, 2 + random.nextInt(2));
                break;
            case 9:
                add(RuneFlow.PICK, random.nextInt(2));
                add(RuneFlow.PAIR, 0);
                number(late);
                number(late);
                break;
            default:
                add(RuneFlow.CALL, 0);
                add(RuneFlow.NAME, 0);
                number(late);
        }
    }

    private void content(boolean late) {
        int choice = full() ? random.nextInt(3) : random.nextInt(13);
        switch (choice) {
            case 0:
            case 1:
            case 2:
                add(RuneFlow.NAME, 4);
                break;
            case 3:
            case 4:
                add(RuneFlow.JOIN, 0);
                content(late);
                content(late);
                break;
            case 5:
                add(RuneFlow.HEAD, 0);
                content(late);
                break;
            case 6:
                add(RuneFlow.STEP, random.nextInt(3));
                number(late);
                break;
            case 7:
                add(RuneFlow.LATE, 0);
                content(true);
                break;
            case 8:
                add(RuneFlow.IF, 0);
                number(late);
                content(late);
                content(late);
                break;
            case 9:
            case 10:
                add(RuneFlow.CALL, 0);
                add(RuneFlow.NAME, 1);
                number(late);
                break;
            default:
                block(late);
        }
    }
}
