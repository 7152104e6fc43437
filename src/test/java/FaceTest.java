import java.io.IOException;
import java.lang.reflect.Constructor;
import java.lang.reflect.Field;
import java.lang.reflect.Method;
import java.lang.reflect.Modifier;
import java.nio.charset.StandardCharsets;
import java.nio.file.Files;
import java.nio.file.Path;
import java.util.ArrayList;
import java.util.List;
import java.util.Map;
import java.util.Set;
import java.util.StringJoiner;
import java.util.TreeMap;
import java.util.TreeSet;
import java.util.regex.Matcher;
import java.util.regex.Pattern;

/** The class's face, held against the one that the document itself writes down. */
public final class FaceTest {
    private static final Path DOC = Path.of("../shared/DOC.md");
    private static final Path SOURCE = Path.of("src/main/java/LastPage.java");
    private static final Pattern BLOCK = Pattern.compile("(?s)## The public face\\s+```java\n(.*?)```");
    private static final Pattern CONSTANT = Pattern.compile("([A-Z]+) = (-?\\d+)");
    private static final Pattern CALL = Pattern.compile("public (int|long) (\\w+)\\(([^)]*)\\)");
    private static final Pattern HEADING = Pattern.compile("Ahead of the calls (.*?) the interface says: (---- [^\n]*?)\\.\n");
    private static final int CALLS = 47, CONSTANTS = 6, HEADINGS = 9, MOST_CALLS = 512;

    private final String doc;
    private final String face;
    private final String source;

    private FaceTest() throws IOException {
        doc = Files.readString(DOC, StandardCharsets.UTF_8);
        source = Files.readString(SOURCE, StandardCharsets.ISO_8859_1);
        Matcher block = BLOCK.matcher(doc);
        face = block.find() ? block.group(1) : "";
        Checks.due("the face stands in the document", face.isEmpty() ? 0 : 1, 1);
    }

    private static void dueSame(String what, Object got, Object want) {
        Checks.due(what + ": is " + got + ", due is " + want, got.equals(want) ? 1 : 0, 1);
    }

    private void theClass() {
        Checks.due("the document's class is public and final", face.contains("public final class LastPage {") ? 1 : 0, 1);
        int both = Modifier.PUBLIC | Modifier.FINAL;
        Checks.due("public and final", LastPage.class.getModifiers() & both, both);
        Checks.due("no package", LastPage.class.getPackageName().length(), 0);
        Constructor<?>[] makers = LastPage.class.getDeclaredConstructors();
        Checks.due("constructors", makers.length, 1);
        for (Constructor<?> maker : makers) {
            Checks.due("public constructor", Modifier.isPublic(maker.getModifiers()) ? 1 : 0, 1);
            Checks.due("numbers for it", maker.getParameterCount(), 0);
        }
    }

    private void constants() throws IllegalAccessException {
        Map<String, Integer> want = new TreeMap<>();
        Matcher m = CONSTANT.matcher(face);
        while (m.find()) want.put(m.group(1), Integer.valueOf(m.group(2)));
        Checks.due("constants of the document", want.size(), CONSTANTS);
        Map<String, Integer> got = new TreeMap<>();
        for (Field f : LastPage.class.getDeclaredFields()) {
            if (Modifier.isPrivate(f.getModifiers())) continue;
            int all = Modifier.PUBLIC | Modifier.STATIC | Modifier.FINAL;
            Checks.due(f.getName() + " is public, static, final", f.getModifiers(), all);
            dueSame("type of " + f.getName(), f.getType(), int.class);
            got.put(f.getName(), f.getInt(null));
        }
        dueSame("constants", got, want);
    }

    /** As the document writes a call, without the names of its numbers. */
    private static String written(Method m) {
        StringJoiner types = new StringJoiner(", ", "(", ")");
        for (Class<?> p : m.getParameterTypes()) types.add(p.getName());
        return m.getReturnType().getName() + " " + m.getName() + types;
    }

    private void calls() {
        Set<String> want = new TreeSet<>();
        Set<String> names = new TreeSet<>();
        Matcher m = CALL.matcher(face);
        while (m.find()) {
            want.add(m.group(1) + " " + m.group(2) + "(" + m.group(3).replaceAll("(int|long) \\w+", "$1") + ")");
            names.add(m.group(2));
        }
        Checks.due("calls of the document", want.size(), CALLS);
        Set<String> got = new TreeSet<>();
        for (Method call : LastPage.class.getDeclaredMethods()) {
            if (Modifier.isPrivate(call.getModifiers())) {
                Checks.due("a private one of a public name: " + call.getName(), names.contains(call.getName()) ? 1 : 0, 0);
                continue;
            }
            Checks.due(call.getName() + " is public alone", call.getModifiers(), Modifier.PUBLIC);
            got.add(written(call));
        }
        dueSame("calls", got, want);
    }

    /** The source has the document's headings, each with its calls behind it, in the document's order. */
    private void headings() {
        List<String> want = new ArrayList<>();
        Matcher m = HEADING.matcher(doc);
        int found = 0;
        while (m.find()) {
            found++;
            want.add(m.group(2));
            for (String call : m.group(1).split(", ")) want.add(call.replace("`", ""));
        }
        Checks.due("headings of the document", found, HEADINGS);
        List<String> got = new ArrayList<>();
        Matcher s = Pattern.compile("(?m)^    (?:// (---- \\d .*)|public (?:int|long) (\\w+)\\()").matcher(source);
        while (s.find()) got.add(s.group(1) == null ? s.group(2) : s.group(1));
        dueSame("headings and calls in their order", got, want);
    }

    /** "An object is used for at most 512 calls": each of them is answered as due. */
    private static void allCallsOfAnObject() {
        LastPage x = new LastPage();
        int calls = 0;
        for (; calls < MOST_CALLS - 2; calls++) {
            int want = calls % 2 == 0 ? LastPage.FINDING : LastPage.BAD;
            Checks.due("call " + calls, calls % 2 == 0 ? x.tear(5) : x.tear(6), want);
        }
        Checks.due("call 510: findings(1)", x.findings(1), calls / 2);
        Checks.due("call 511: rip()", x.rip(), LastPage.STATE);
    }

    public static void main(String[] args) throws IOException, IllegalAccessException {
        FaceTest t = new FaceTest();
        t.theClass();
        t.constants();
        t.calls();
        t.headings();
        allCallsOfAnObject();
        Checks.end("FaceTest");
    }
}
