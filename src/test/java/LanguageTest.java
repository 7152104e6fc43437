import java.io.IOException;
import java.lang.reflect.Constructor;
import java.lang.reflect.Field;
import java.lang.reflect.InvocationTargetException;
import java.lang.reflect.Method;
import java.lang.reflect.Modifier;
import java.nio.charset.StandardCharsets;
import java.nio.file.Files;
import java.nio.file.Path;
import java.util.Set;
import java.util.TreeSet;
import java.util.regex.Matcher;
import java.util.regex.Pattern;

/** The face of the document, the rules of LANGUAGE.md that can be seen from outside, and that no call throws. */
public final class LanguageTest {
    private static final Path SOURCE = Path.of("src/main/java/LastPage.java");
    private static final String FACE = """
        row 2, lay 3, at 2, tear 1, copy 5, mean 1, text 2, put 3, fault 1, book 1, page 2, mark 2, reverse 2, swap 2,
        read 1, add 2, rip 0, keep 1, on 1, binds 1, means 2, meanings 1, never 0, verdict 2, judge 3, odds 2, waits 1,
        all 0, free 2, deeds 2, order 2, flips 1, flip 2, most 0, matter 2, best 1, front 0, meant 1, kinds 4, lots 2,
        asked 0, upper 0, lower 0, count 1, finding 0, findings 1, digest 0""";
    private static final Set<String> LONGS = Set.of("upper", "lower", "digest");
    private static final String[] NEVER = {
        "throw", "throws", "try", "catch", "finally", "synchronized", "assert", "volatile", "native", "Object",
        "Exception", "Override", "System.out", "hashCode", "toString()", "var", "double", "float", "Random", "Thread"};
    private static final int[] EDGES = {
        Integer.MIN_VALUE, Integer.MIN_VALUE + 1, -9, -1, 0, 1, 2, 3, 5, 6, 7, 20, 21, 31, 32, 40, 41, 44, 80, 81,
        127, 128, Integer.MAX_VALUE - 1, Integer.MAX_VALUE};
    private static final String[] STATES = {"", "p15", "o11 i01", "s0 e156 d50 p1 d61 i50", "i10 o20 d50 s15 p16 e00"};

    private static void constants() {
        Checks.due("BAD", LastPage.BAD, -1);
        Checks.due("FULL", LastPage.FULL, -2);
        Checks.due("FINDING", LastPage.FINDING, -3);
        Checks.due("STATE", LastPage.STATE, -4);
        Checks.due("SPENT", LastPage.SPENT, -6);
        Checks.due("NONE", LastPage.NONE, -9);
    }

    private static void face() {
        Class<?> c = LastPage.class;
        Checks.due("public and final", c.getModifiers() & (Modifier.PUBLIC | Modifier.FINAL),
            Modifier.PUBLIC | Modifier.FINAL);
        Set<String> want = new TreeSet<>(Set.of(FACE.trim().split(",\\s+")));
        Set<String> got = new TreeSet<>();
        for (Method m : c.getDeclaredMethods()) {
            if (Modifier.isPrivate(m.getModifiers())) {
                Checks.due("no private one of a public name: " + m.getName(), want.stream()
                    .filter(w -> w.startsWith(m.getName() + " ")).count(), 0);
                continue;
            }
            got.add(m.getName() + " " + m.getParameterCount());
            Class<?> answers = LONGS.contains(m.getName()) ? long.class : int.class;
            Checks.due("what " + m.getName() + " answers", m.getReturnType() == answers ? 1 : 0, 1);
            Checks.due("public " + m.getName(), Modifier.isPublic(m.getModifiers()) ? 1 : 0, 1);
            for (Class<?> p : m.getParameterTypes()) Checks.due("ints of " + m.getName(), p == int.class ? 1 : 0, 1);
        }
        Checks.due("the face is " + want + ", not " + got, want.equals(got) ? 1 : 0, 1);
        int open = 0;
        for (Field f : c.getDeclaredFields()) if (!Modifier.isPrivate(f.getModifiers())) open++;
        Checks.due("fields that can be seen", open, 6);
        for (Constructor<?> k : c.getDeclaredConstructors()) Checks.due("constructor", k.getParameterCount(), 0);
    }

    private static void source() throws IOException {
        String s = Files.readString(SOURCE, StandardCharsets.ISO_8859_1);
        for (int i = 0; i < s.length(); i++) {
            if (s.charAt(i) > 126) Checks.due("sign at " + i, s.charAt(i), 0);
        }
        String code = s.replaceAll("(?s)/\\*.*?\\*/", "").replaceAll("//[^\n]*", "");
        for (String word : NEVER) {
            boolean there = Pattern.compile("(?<![A-Za-z])" + Pattern.quote(word) + "(?![A-Za-z])").matcher(code).find();
            Checks.due("the word " + word, there ? 1 : 0, 0);
        }
        Checks.due("lambdas", code.contains("->") || code.contains("::") ? 1 : 0, 0);
        Matcher imports = Pattern.compile("import ([^;]+);").matcher(code);
        while (imports.find()) {
            String name = imports.group(1);
            boolean fine = Set.of("java.util.Arrays", "java.util.ArrayList", "java.util.List").contains(name);
            Checks.due("import of " + name, fine ? 1 : 0, 1);
        }
        Matcher statics = Pattern.compile("\\bstatic (?!final)[\\w\\[\\]]+ \\w+\\s*[=;]").matcher(code);
        Checks.due("static fields are final", statics.find() ? 1 : 0, 0);
        Matcher made = Pattern.compile("\\bnew \\w+").matcher(code);
        int makers = 0;
        while (made.find()) makers++;
        Checks.due("objects are made with the object alone", makers < 40 ? 1 : 0, 1);
        int lines = 0;
        for (String line : code.split("\n")) {
            if (line.matches("    ( {4})?(public|private|static|void|int|long|boolean|[A-Z]\\w+)\\b.*\\{")) lines = 0;
            lines++;
            if (line.matches("    ( {4})?\\}")) Checks.due("lines of a method", Math.max(lines, 60), 60);
        }
    }

    /** A random place in the edges for calls of many numbers, all of them for calls of few. */
    private static void edges(String state) throws IllegalAccessException {
        java.util.Random dice = new java.util.Random(7);
        for (Method m : LastPage.class.getDeclaredMethods()) {
            if (!Modifier.isPublic(m.getModifiers())) continue;
            int n = m.getParameterCount();
            LastPage x = null;
            for (int k = 0; k < 1200; k++) {
                if (k % 100 == 0) x = inState(state);
                Object[] args = new Object[n];
                for (int i = 0, rest = k; i < n; i++, rest /= EDGES.length) {
                    args[i] = EDGES[n > 2 ? dice.nextInt(EDGES.length) : rest % EDGES.length];
                }
                try {
                    m.invoke(x, args);
                } catch (InvocationTargetException e) {
                    Checks.due(m.getName() + java.util.Arrays.toString(args) + " threw " + e.getCause(), 1, 0);
                }
            }
            Checks.due(m.getName() + " in " + state, x == null ? 0 : 1, 1);
        }
    }

    private static LastPage inState(String state) {
        LastPage x = new LastPage();
        if (!state.isEmpty()) {
            Checks.lay(x, 0, state);
            x.book(0);
            x.keep(1);
        }
        Checks.layRow(x, 0, 1, 31, 0, 2);
        Checks.layRow(x, 1, -1, 32);
        x.row(2, 0);
        x.row(3, 40);
        return x;
    }

    public static void main(String[] args) throws IOException, IllegalAccessException {
        constants();
        face();
        source();
        for (String state : STATES) edges(state);
        Checks.end("LanguageTest");
    }
}
