import java.io.File;
import java.io.IOException;
import java.lang.reflect.Field;
import java.lang.reflect.Modifier;
import java.net.URL;
import java.net.URLClassLoader;
import java.nio.charset.StandardCharsets;
import java.nio.file.Files;
import java.nio.file.Path;
import java.util.ArrayList;
import java.util.List;
import java.util.Set;
import java.util.TreeSet;
import java.util.function.Supplier;
import java.util.regex.Matcher;
import java.util.regex.Pattern;
import java.util.stream.Stream;
import javax.tools.JavaCompiler;
import javax.tools.ToolProvider;

/** README.md: its program is compiled and run, each answer that it names is compared; its tests are those there. */
public final class ReadmeTest {
    private static final Path README = Path.of("README.md");
    private static final Path TESTS = Path.of("src/test/java");
    private static final Path COMMAND = Path.of(".ci/run");
    private static final Pattern CALL = Pattern.compile("(x\\.\\w+\\([^;]*\\));(.*)");
    private static final Pattern ANSWER = Pattern.compile("\\s+// (-?\\d+|[A-Z]+)(: .+)?");
    private static final Pattern CONSTANT = Pattern.compile("`([A-Z]+)` \\((-\\d+)\\)");

    /** A call of README.md and the answer that it names there. */
    private record Named(int line, String call, String answer) {
    }

    private final List<String> lines;
    private final List<Named> named = new ArrayList<>();
    private final StringBuilder body = new StringBuilder();

    private ReadmeTest() throws IOException {
        lines = Files.readAllLines(README, StandardCharsets.UTF_8);
    }

    /** Calls become answers that are told; each other line of the program stays as it is. */
    private void takeProgram() {
        boolean inside = false;
        for (int k = 0; k < lines.size(); k++) {
            String line = lines.get(k);
            if (line.startsWith("```")) inside = line.equals("```java");
            else if (inside) takeLine(k + 1, line);
        }
        Checks.due("README.md shows calls", named.isEmpty() ? 0 : 1, 1);
    }

    private void takeLine(int number, String line) {
        Matcher call = CALL.matcher(line);
        if (!call.matches()) {
            body.append("        ").append(line).append('\n');
            return;
        }
        Matcher answer = ANSWER.matcher(call.group(2));
        boolean names = answer.matches();
        Checks.due("README.md, line " + number + " names its answer", names ? 1 : 0, 1);
        named.add(new Named(number, call.group(1), names ? answer.group(1) : "0"));
        body.append("        told.add((long) ").append(call.group(1)).append(");\n");
    }

    private static long valueOf(String answer) throws ReflectiveOperationException {
        if (!Character.isUpperCase(answer.charAt(0))) return Long.parseLong(answer);
        return LastPage.class.getField(answer).getInt(null);
    }

    /** It tells by a List, as a class of another loader can't call what the tests share. */
    private String source() {
        return "import java.util.ArrayList;\nimport java.util.List;\nimport java.util.function.Supplier;\n"
            + "public final class ReadmeProgram implements Supplier<List<Long>> {\n"
            + "    public List<Long> get() {\n        List<Long> told = new ArrayList<>();\n"
            + body + "        return told;\n    }\n}\n";
    }

    private List<?> run() throws IOException, ReflectiveOperationException {
        JavaCompiler javac = ToolProvider.getSystemJavaCompiler();
        Checks.due("a compiler is there", javac == null ? 0 : 1, 1);
        if (javac == null) return List.of();
        Path dir = Files.createTempDirectory("readme");
        try {
            Path file = dir.resolve("ReadmeProgram.java");
            Files.writeString(file, source(), StandardCharsets.UTF_8);
            int alone = compile(javac, dir, dir.toString(), fileThatIsCompiled());
            int program = compile(javac, dir, dir.toString(), file.toString());
            Checks.due("the class is compiled by the command of README.md", alone, 0);
            Checks.due("the program of README.md is compiled", program, 0);
            return alone == 0 && program == 0 ? toldBy(dir) : List.of();
        } finally {
            File[] made = dir.toFile().listFiles();
            if (made != null) for (File f : made) Files.delete(f.toPath());
            Files.delete(dir);
        }
    }

    private static int compile(JavaCompiler javac, Path to, String classes, String file) {
        return javac.run(null, null, null, "-proc:none", "-cp", classes, "-d", to.toString(), file);
    }

    /** The file that README.md has compiled alone. */
    private String fileThatIsCompiled() {
        Matcher m = Pattern.compile("`javac -d out ([^`]*)`").matcher(String.join("\n", lines));
        return m.find() ? m.group(1) : "README.md names no file";
    }

    /** The classes by a loader that knows none of the tests': README.md asks for no more than the class. */
    private static List<?> toldBy(Path dir) throws IOException, ReflectiveOperationException {
        ClassLoader none = ClassLoader.getPlatformClassLoader();
        try (URLClassLoader loader = new URLClassLoader(new URL[] {dir.toUri().toURL()}, none)) {
            Object program = loader.loadClass("ReadmeProgram").getConstructor().newInstance();
            return program instanceof Supplier<?> s && s.get() instanceof List<?> told ? told : List.of();
        }
    }

    private void answers() throws IOException, ReflectiveOperationException {
        takeProgram();
        List<?> told = run();
        Checks.due("calls of README.md that were answered", told.size(), named.size());
        for (int k = 0; k < told.size() && k < named.size(); k++) {
            Named n = named.get(k);
            long got = told.get(k) instanceof Long v ? v : Long.MIN_VALUE;
            Checks.due("README.md, line " + n.line() + ": " + n.call(), got, valueOf(n.answer()));
        }
    }

    private void constants() throws ReflectiveOperationException {
        Set<String> names = new TreeSet<>();
        Matcher m = CONSTANT.matcher(String.join("\n", lines));
        while (m.find()) {
            names.add(m.group(1));
            Checks.due("README.md, " + m.group(1), valueOf(m.group(1)), Long.parseLong(m.group(2)));
        }
        Set<String> want = new TreeSet<>();
        for (Field f : LastPage.class.getDeclaredFields()) if (Modifier.isPublic(f.getModifiers())) want.add(f.getName());
        Checks.due("README.md names the constants " + want + ", not " + names, names.equals(want) ? 1 : 0, 1);
    }

    /** Names of classes of the tests whose files end so. */
    private static Set<String> filesOf(String end) throws IOException {
        Set<String> names = new TreeSet<>();
        try (Stream<Path> files = Files.list(TESTS)) {
            files.map(f -> f.getFileName().toString()).filter(f -> f.endsWith(end + ".java"))
                .forEach(f -> names.add(f.replace(".java", "")));
        }
        return names;
    }

    /** Each test is named, each that is named is there; each file with a main() is run, and so are all edges. */
    private void tests() throws IOException {
        Set<String> want = filesOf("Test");
        Set<String> names = new TreeSet<>();
        Matcher m = Pattern.compile("`(\\w+Test)`").matcher(String.join("\n", lines));
        while (m.find()) names.add(m.group(1));
        Checks.due("README.md names the tests " + want + ", not " + names, names.equals(want) ? 1 : 0, 1);
        for (String name : filesOf("")) {
            String text = Files.readString(TESTS.resolve(name + ".java"), StandardCharsets.UTF_8);
            boolean isRun = text.contains("public static void main(");
            Checks.due(name + " has a main() that .ci/run starts", isRun ? 1 : 0, want.contains(name) ? 1 : 0);
        }
        String edges = Files.readString(TESTS.resolve("EdgesTest.java"), StandardCharsets.UTF_8);
        for (String name : filesOf("Edges")) {
            if (name.equals("Edges")) continue;
            Checks.due("EdgesTest runs " + name, edges.contains("        " + name + ".all();") ? 1 : 0, 1);
        }
    }

    /** The one command under "Tests" is the script that the landing runs, and it starts the tests of both places. */
    private void command() throws IOException {
        List<String> commands = new ArrayList<>();
        for (String line : lines.subList(lines.indexOf("## Tests") + 1, lines.size())) {
            if (line.startsWith("    ")) commands.add(line.trim());
        }
        boolean one = commands.equals(List.of(COMMAND.toString()));
        Checks.due("README.md names " + COMMAND + ", not " + commands, one ? 1 : 0, 1);
        Checks.due(COMMAND + " can be run", Files.isExecutable(COMMAND) ? 1 : 0, 1);
        String script = Files.readString(COMMAND, StandardCharsets.UTF_8);
        for (String part : List.of("own=src/test/java\n", "shared=../shared/tests\n", "*Test.java", "\nrun_own_tests\n",
            "\nrun_shared_tests\n")) {
            Checks.due(COMMAND + " has '" + part.trim() + "'", script.contains(part) ? 1 : 0, 1);
        }
    }

    public static void main(String[] args) throws IOException, ReflectiveOperationException {
        ReadmeTest t = new ReadmeTest();
        t.answers();
        t.constants();
        t.tests();
        t.command();
        Checks.end("ReadmeTest");
    }
}
