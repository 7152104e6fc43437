import java.io.IOException;
import java.lang.reflect.Field;
import java.lang.reflect.InvocationTargetException;
import java.lang.reflect.Method;
import java.lang.reflect.Modifier;
import java.nio.charset.StandardCharsets;
import java.nio.file.Files;
import java.nio.file.Path;
import java.util.Set;
import java.util.regex.Matcher;
import java.util.regex.Pattern;

/** The rules of LANGUAGE.md that can be seen in the source, and that no call throws. */
public final class LanguageTest {
    private static final Path SOURCE = Path.of("src/main/java/LastPage.java");
    private static final String[] NEVER = {
        "throw", "throws", "try", "catch", "finally", "synchronized", "assert", "volatile", "native", "Object",
        "Exception", "Override", "System.out", "hashCode", "toString()", "var", "double", "float", "Random", "Thread"};
    private static final int[] EDGES = {
        Integer.MIN_VALUE, Integer.MIN_VALUE + 1, -9, -1, 0, 1, 2, 3, 5, 6, 7, 20, 21, 31, 32, 40, 41, 44, 80, 81,
        127, 128, Integer.MAX_VALUE - 1, Integer.MAX_VALUE};
    private static final String[] STATES = {"", "p15", "o11 i01", "s0 e156 d50 p1 d61 i50", "i10 o20 d50 s15 p16 e00"};

    private static void source() throws IOException {
        String s = Files.readString(SOURCE, StandardCharsets.ISO_8859_1);
        for (int i = 0; i < s.length(); i++) {
            if (s.charAt(i) > 126) Checks.due("sign at " + i, s.charAt(i), 0);
        }
        String code = s.replaceAll("(?s)/\\*.*?\\*/", "").replaceAll("//[^\n]*", "");
        for (String word : NEVER) {
            boolean there = Pattern.compile("(?<![A-Za-z])" + Pattern.quote(word) + "(?![A-Za-z])").matcher(code).find();
            Checks.due("the word " + word, there ? 1 : 0, 0);
        }
        Checks.due("lambdas", code.contains("->") || code.contains("::") ? 1 : 0, 0);
        Matcher imports = Pattern.compile("import ([^;]+);").matcher(code);
        while (imports.find()) {
            String name = imports.group(1);
            boolean fine = Set.of("java.util.Arrays", "java.util.ArrayList", "java.util.List").contains(name);
            Checks.due("import of " + name, fine ? 1 : 0, 1);
        }
        Matcher statics = Pattern.compile("\\bstatic (?!final)[\\w\\[\\]]+ \\w+\\s*[=;]").matcher(code);
        Checks.due("static fields are final", statics.find() ? 1 : 0, 0);
        made(code);
        int lines = 0;
        for (String line : code.split("\n")) {
            if (line.matches("    ( {4})?(public|private|static|void|int|long|boolean|[A-Z]\\w+)\\b.*\\{")) lines = 0;
            lines++;
            if (line.matches("    ( {4})?\\}")) Checks.due("lines of a method", Math.max(lines, 60), 60);
        }
    }

    /** None but a field that is final, and a constructor, makes an object, so no call does. */
    private static void made(String code) {
        boolean inConstructor = false;
        int makers = 0;
        for (String line : code.split("\n")) {
            if (line.matches("    ( {4})?\\S.*\\) \\{")) inConstructor = line.matches("    ( {4})?(public )?[A-Z]\\w+\\(.*");
            if (!line.matches(".*\\bnew \\w.*")) continue;
            makers++;
            boolean withTheObject = inConstructor || line.matches("    ( {4})?private final \\S+ \\w+ = .*;");
            Checks.due("made with the object:" + line, withTheObject ? 1 : 0, 1);
        }
        Checks.due("some objects are made", makers > 0 ? 1 : 0, 1);
        String byLibrary = "(?s).*(clone|copyOf|copyOfRange|valueOf|substring|List\\.of|values|toCharArray)\\(.*";
        Checks.due("the library makes none", code.matches(byLibrary) || code.indexOf('"') >= 0 ? 1 : 0, 0);
    }

    /** Rule 11, and rule 1 of the classes inside. */
    private static void sizes() {
        Class<?>[] inside = LastPage.class.getDeclaredClasses();
        Checks.due("classes", Math.max(inside.length + 1, 12), 12);
        sizeOf(LastPage.class);
        for (Class<?> c : inside) {
            sizeOf(c);
            Checks.due(c.getName() + " is static", Modifier.isStatic(c.getModifiers()) ? 1 : 0, 1);
            boolean open = Modifier.isPublic(c.getModifiers()) || Modifier.isProtected(c.getModifiers());
            Checks.due(c.getName() + " is private or package-visible", open ? 1 : 0, 0);
        }
    }

    private static void sizeOf(Class<?> c) {
        int fields = 0;
        for (Field f : c.getDeclaredFields()) if (!Modifier.isStatic(f.getModifiers())) fields++;
        Checks.due("fields of " + c.getName(), Math.max(fields, 20), 20);
        for (Method m : c.getDeclaredMethods()) {
            Checks.due("numbers for " + m.getName(), Math.max(m.getParameterCount(), 7), 7);
        }
    }

    /** A random place in the edges for calls of many numbers, all of them for calls of few. */
    private static void edges(String state) throws IllegalAccessException {
        java.util.Random dice = new java.util.Random(7);
        for (Method m : LastPage.class.getDeclaredMethods()) {
            if (!Modifier.isPublic(m.getModifiers())) continue;
            int n = m.getParameterCount();
            LastPage x = null;
            for (int k = 0; k < 1200; k++) {
                if (k % 100 == 0) x = inState(state);
                Object[] args = new Object[n];
                for (int i = 0, rest = k; i < n; i++, rest /= EDGES.length) {
                    args[i] = EDGES[n > 2 ? dice.nextInt(EDGES.length) : rest % EDGES.length];
                }
                try {
                    m.invoke(x, args);
                } catch (InvocationTargetException e) {
                    Checks.due(m.getName() + java.util.Arrays.toString(args) + " threw " + e.getCause(), 1, 0);
                }
            }
            Checks.due(m.getName() + " in " + state, x == null ? 0 : 1, 1);
        }
    }

    private static LastPage inState(String state) {
        LastPage x = new LastPage();
        if (!state.isEmpty()) {
            Checks.lay(x, 0, state);
            x.book(0);
            x.keep(1);
        }
        Checks.layRow(x, 0, 1, 31, 0, 2);
        Checks.layRow(x, 1, -1, 32);
        x.row(2, 0);
        x.row(3, 40);
        return x;
    }

    public static void main(String[] args) throws IOException, IllegalAccessException {
        source();
        sizes();
        for (String state : STATES) edges(state);
        Checks.end("LanguageTest");
    }
}
