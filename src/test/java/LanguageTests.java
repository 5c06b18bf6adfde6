import java.io.IOException;
import java.lang.reflect.Array;
import java.lang.reflect.Constructor;
import java.lang.reflect.Field;
import java.lang.reflect.Method;
import java.lang.reflect.Modifier;
import java.nio.charset.StandardCharsets;
import java.nio.file.Files;
import java.nio.file.Path;
import java.util.ArrayList;
import java.util.Arrays;
import java.util.IdentityHashMap;
import java.util.List;
import java.util.Map;
import java.util.Set;
import java.util.TreeSet;

/** That the program keeps to its language: the face, the words that are not of it, its sizes, and the room it takes. */
public final class LanguageTests {
    private static int wrong = 0;

    private static void check(String what, boolean holds) {
        if (!holds) {
            wrong++;
            System.out.println("not so: " + what);
        }
    }

    public static void main(String[] arguments) throws Exception {
        face();
        classes();
        source();
        room();
        strangeArguments();
        System.out.println(wrong == 0 ? "the language is kept to" : wrong + " wrong");
        if (wrong != 0) {
            System.exit(1);
        }
    }

    private static void face() throws Exception {
        String[] methods = {"int put(int,int,int,int)", "int cut(int,int)", "int token(int,int)", "int setPage(int,int)", "int compile()", "boolean isAsAnew()",
            "boolean isSettled()", "int ran()", "int taken()", "int kept()", "int laid()", "int thing(int,int)", "int faults()", "int fault(int)", "int answer(int,int,int)", "int valueOf(int)"};
        Set<String> due = new TreeSet<>(Arrays.asList(methods));
        Set<String> found = new TreeSet<>();
        for (Method method : RuneFlow.class.getDeclaredMethods()) {
            if (!Modifier.isPrivate(method.getModifiers()) && !method.isSynthetic()) {
                List<String> types = new ArrayList<>();
                for (Class<?> type : method.getParameterTypes()) {
                    types.add(type.getName());
                }
                found.add(method.getReturnType() + " " + method.getName() + "(" + String.join(",", types) + ")");
                check("a public method: " + method, Modifier.isPublic(method.getModifiers()) && !Modifier.isStatic(method.getModifiers()));
            }
        }
        check("the methods of the face: " + found, found.equals(due));
        String[] constants = {"NONE", "WORD", "BREAK", "LABEL", "CODE", "MATH", "END", "NUMBER", "NAME", "BLOCK", "ADD", "SUB", "MUL", "LESS", "JOIN", "IF", "LET", "FUNC", "CALL",
            "SET", "SHOW", "HEAD", "STEP", "LATE", "NOW", "AT", "PAGE", "LAST", "COUNT", "MEASURE", "IMPORT", "PAIR", "PICK"};
        String[] codes = {"TOKEN", "OPEN_END", "KIND", "UNKNOWN", "DEEP", "LONG", "PLACE", "CIRCLE"};
        Set<String> names = new TreeSet<>();
        for (int i = 0; i < constants.length; i++) {
            check("constant " + constants[i], RuneFlow.class.getField(constants[i]).getInt(null) == i - 1);
            names.add(constants[i]);
        }
        for (int i = 0; i < codes.length; i++) {
            check("constant " + codes[i], RuneFlow.class.getField(codes[i]).getInt(null) == i + 1);
            names.add(codes[i]);
        }
        for (Field field : RuneFlow.class.getDeclaredFields()) {
            check("a private field: " + field, Modifier.isPrivate(field.getModifiers()) || names.contains(field.getName()));
        }
        check("final", Modifier.isFinal(RuneFlow.class.getModifiers()) && Modifier.isPublic(RuneFlow.class.getModifiers()));
        Constructor<?>[] constructors = RuneFlow.class.getDeclaredConstructors();
        check("one constructor", constructors.length == 1 && Modifier.isPublic(constructors[0].getModifiers()) && constructors[0].getParameterCount() == 0);
    }

    private static void classes() {
        Set<String> face = new TreeSet<>();
        for (Method method : RuneFlow.class.getMethods()) {
            face.add(method.getName());
        }
        List<Class<?>> all = new ArrayList<>(Arrays.asList(RuneFlow.class.getDeclaredClasses()));
        check("some twelve classes: " + all.size(), all.size() <= 12);
        all.add(RuneFlow.class);
        for (Class<?> type : all) {
            check("no public class inside: " + type, type == RuneFlow.class || !Modifier.isPublic(type.getModifiers()) && !Modifier.isProtected(type.getModifiers()));
            int fields = 0;
            for (Field field : type.getDeclaredFields()) {
                boolean isStatic = Modifier.isStatic(field.getModifiers());
                fields += isStatic ? 0 : 1;
                check("no static state: " + field, !isStatic || Modifier.isFinal(field.getModifiers()) && field.getType() == int.class);
            }
            check("some twenty fields: " + type + " " + fields, fields <= 20);
            for (Method method : type.getDeclaredMethods()) {
                check("seven parameters: " + method, method.getParameterCount() <= 7);
                check("no name of the face: " + method, Modifier.isPublic(method.getModifiers()) || !face.contains(method.getName()));
            }
        }
    }

    private static void source() throws IOException {
        String text = Files.readString(Path.of("src/main/java/RuneFlow.java"), StandardCharsets.UTF_8);
        for (int i = 0; i < text.length(); i++) {
            check("plain signs", text.charAt(i) < 127);
        }
        String code = text.replaceAll("(?s)/\\*.*?\\*/", "").replaceAll("//[^\n]*", "");
        String[] words = {"\\bcatch\\b", "\\btry\\b", "\\bfinally\\b", "->", "::", "\\bassert\\b", "\\bsynchronized\\b", "\\bdouble\\b", "\\bfloat\\b", "\\bString\\b", "Exact",
            "\\bObject\\b", "\\bSystem\\.(?!arraycopy)", "\"", "\\bvar\\b", "\\bpackage\\b", "\\babstract\\b", "\\bprotected\\b"};
        for (String word : words) {
            check("not in the program: " + word, !java.util.regex.Pattern.compile(word).matcher(code).find());
        }
        check("imports only Arrays", code.replaceAll("import java.util.Arrays;", "").indexOf("import ") < 0);
        int depth = 0;
        int begun = 0;
        String[] lines = code.split("\n");
        for (int i = 0; i < lines.length; i++) {
            boolean method = lines[i].matches("^( {4}| {8})\\S.*\\) (throws .*)?\\{$") && !lines[i].contains(" class ") && !lines[i].trim().startsWith("if") && !lines[i].trim().startsWith("for");
            if (method) {
                begun = i;
                depth = lines[i].indexOf(lines[i].trim());
            }
            if (begun > 0 && lines[i].equals(" ".repeat(depth) + "}")) {
                check("a method of some sixty lines: " + lines[begun].trim() + " " + (i - begun + 1), i - begun + 1 <= 60);
                begun = 0;
            }
        }
    }

    /** A run of 512 calls on documents that begin, keep and lay much takes a small part of the room. */
    private static void room() throws Exception {
        RuneFlow small = new RuneFlow();
        check("a new object takes little: " + cells(small), cells(small) < 4000);
        RuneFlow flow = new RuneFlow();
        int[] library = {3, 0, 15, 0, 16, 1, 30, 0, 16, 2, 13, 0, 7, 1, 7, 1, 8, 0, 3, 0, 22, 0, 7, 1, 3, 0, 13, 0, 8, 0, 0, 1, 3, 0, 18, 0, 7, 1, 5, 0, 8, 0, 0, 2, 3, 0, 20, 0, 7, 1, 5, 0, 5, 0};
        for (int i = 0; i < library.length; i += 2) {
            flow.put(1, i / 2, library[i], library[i + 1]);
        }
        int[] use = {3, 0, 15, 0, 29, 10};
        for (int i = 0; i < use.length; i += 2) {
            flow.put(0, i / 2, use[i], use[i + 1]);
        }
        int size = use.length / 2;
        for (int i = 0; i < 13; i++) {
            int[] call = {3, 0, 17, 0, 7, 0, 6, i};
            for (int j = 0; j < call.length; j += 2) {
                flow.put(0, size++, call[j], call[j + 1]);
            }
        }
        for (int turn = 1; turn < 150; turn++) {
            int place = use.length / 2 + 3 + 4 * (turn % 13);
            flow.cut(0, place);
            flow.put(0, place, 6, turn % 100);
            flow.compile();
            check("as anew, turn " + turn, turn % 10 != 0 || flow.isAsAnew());
        }
        check("60 are kept: " + flow.kept(), flow.kept() == 60);
        check("its rows stay small: " + cells(flow), cells(flow) < 100000);
        // what is kept is let go with its file
        flow.cut(1, 0);
        check("nothing is kept", flow.kept() == 0);
    }

    private static long cells(Object object) throws Exception {
        Map<Object, Boolean> seen = new IdentityHashMap<>();
        return cells(object, seen);
    }

    private static long cells(Object object, Map<Object, Boolean> seen) throws Exception {
        if (object == null || seen.put(object, true) != null) {
            return 0;
        }
        if (object.getClass().isArray()) {
            return Array.getLength(object);
        }
        long sum = 0;
        for (Field field : object.getClass().getDeclaredFields()) {
            if (!Modifier.isStatic(field.getModifiers())) {
                sum++;
                if (!field.getType().isPrimitive()) {
                    field.setAccessible(true);
                    sum += cells(field.get(object), seen);
                }
            }
        }
        return sum;
    }

    /** No call throws anything but what its promise names, whatever its arguments are. */
    private static void strangeArguments() {
        int[] strange = {Integer.MIN_VALUE, -1, 0, 1, 2, 3, 9, 10, 24, 25, 26, 27, 31, 32, 59, 60, 61, 99, 100, Integer.MAX_VALUE};
        RuneFlow flow = new RuneFlow();
        for (int round = 0; round < 2; round++) {
            for (int a : strange) {
                only(() -> flow.fault(a), IndexOutOfBoundsException.class);
                only(() -> flow.valueOf(a), IllegalArgumentException.class);
                for (int b : strange) {
                    only(() -> flow.token(a, b), IndexOutOfBoundsException.class);
                    only(() -> flow.cut(a, b), IndexOutOfBoundsException.class);
                    only(() -> flow.setPage(a, b), IllegalArgumentException.class);
                    only(() -> flow.thing(a, b), IndexOutOfBoundsException.class, IllegalArgumentException.class);
                    for (int c : strange) {
                        only(() -> flow.answer(a, b, c), IllegalArgumentException.class);
                        only(() -> flow.put(a, b, c, a), IndexOutOfBoundsException.class, IllegalArgumentException.class, IllegalStateException.class);
                    }
                }
            }
            flow.compile();
        }
    }

    private static void only(Runnable call, Class<?>... thrown) {
        try {
            call.run();
        } catch (RuntimeException exception) {
            boolean isDue = Arrays.asList(thrown).contains(exception.getClass());
            check("only what is told is thrown: " + exception, isDue && exception.getStackTrace()[0].getClassName().equals("RuneFlow"));
        }
    }
}
