import java.io.IOException;
import java.lang.reflect.Method;
import java.lang.reflect.Modifier;
import java.nio.charset.StandardCharsets;
import java.nio.file.Files;
import java.nio.file.Path;
import java.util.ArrayList;
import java.util.List;
import java.util.Set;
import java.util.TreeSet;
import java.util.function.Consumer;
import java.util.regex.Matcher;
import java.util.regex.Pattern;
import java.util.stream.Stream;
import javax.tools.JavaCompiler;
import javax.tools.ToolProvider;

/** README.md: the calls that a reader can try answer what stands behind them, and its tables are whole. */
public final class ReadmeTest {
    private static final Path README = Path.of("README.md");
    private static final Path TESTS = Path.of("src", "test", "java");
    private static final Pattern BLOCK = Pattern.compile("```java\n(.*?)```", Pattern.DOTALL);
    private static final Pattern CALL = Pattern.compile("(desk\\.\\w+\\(.*?\\)); +// (-?\\d+|true|false)(:.*)?");
    private static final int PROMISES = 22;

    public static void main(String[] args) throws Exception {
        Bench bench = new Bench("ReadmeTest");
        String readme = Files.readString(README, StandardCharsets.UTF_8);
        theCalls(bench, readme);
        theMethods(bench, readme);
        theClasses(bench, readme);
        theTests(bench, readme);
        bench.close();
    }

    /** The blocks of the README are made one class, as a reader who pastes them all would have it. */
    private static void theCalls(Bench bench, String readme) throws Exception {
        StringBuilder helpers = new StringBuilder();
        StringBuilder calls = new StringBuilder();
        Matcher block = BLOCK.matcher(readme);
        while (block.find()) {
            StringBuilder part = block.group(1).startsWith("int ") ? helpers : calls;
            for (String line : block.group(1).split("\n")) {
                part.append(asked(bench, line)).append('\n');
            }
        }
        // Beside the class, so that the one that is loaded is of the same package.
        Path folder = Path.of(RewriteDesk.class.getProtectionDomain().getCodeSource().getLocation().toURI());
        Path source = folder.resolve("ReadmeCalls.java");
        Files.writeString(source, "final class ReadmeCalls implements java.util.function.Consumer<Bench> {\n" + helpers
            + "public void accept(Bench bench) {\n" + calls + "}\n}\n", StandardCharsets.UTF_8);
        JavaCompiler compiler = ToolProvider.getSystemJavaCompiler();
        int failed = compiler.run(null, null, null, "-cp", folder.toString(), "-d", folder.toString(), source.toString());
        bench.due("compiling README.md's calls", failed, 0);
        if (failed == 0) {
            ask(bench);
        }
    }

    @SuppressWarnings("unchecked")
    private static void ask(Bench bench) throws ReflectiveOperationException {
        ((Consumer<Bench>) Class.forName("ReadmeCalls").getDeclaredConstructor().newInstance()).accept(bench);
    }

    /** A line of a block; a call with its answer behind it is asked for that answer. */
    private static String asked(Bench bench, String line) {
        Matcher call = CALL.matcher(line);
        if (call.matches()) {
            return "bench.due(\"README.md: " + call.group(1) + "\", " + call.group(1) + ", " + call.group(2) + ");";
        }
        bench.due("README.md: a call without its answer: " + line, line.startsWith("desk."), false);
        return line;
    }

    private static void theMethods(Bench bench, String readme) {
        for (Method method : RewriteDesk.class.getDeclaredMethods()) {
            if (Modifier.isPublic(method.getModifiers())) {
                String name = method.getName();
                bench.due("README.md tells what is taken by " + name, readme.contains("`" + name + "("), true);
                bench.due("README.md has a call of " + name, readme.contains("\ndesk." + name + "("), true);
            }
        }
    }

    private static void theClasses(Bench bench, String readme) {
        for (Class<?> one : RewriteDesk.class.getDeclaredClasses()) {
            bench.due("README.md tells of " + one, readme.contains("`" + one.getSimpleName() + "`"), true);
        }
    }

    /** Each test has a row, each row a test, and each promise is in one. */
    private static void theTests(Bench bench, String readme) throws IOException {
        Set<String> there = new TreeSet<>();
        try (Stream<Path> files = Files.list(TESTS)) {
            files.map(file -> file.getFileName().toString()).filter(name -> name.endsWith("Test.java"))
                .forEach(name -> there.add(name.substring(0, name.length() - ".java".length())));
        }
        Set<String> told = new TreeSet<>();
        boolean[] isSpoken = new boolean[PROMISES + 1];
        Matcher row = Pattern.compile("\n\\| `(\\w+Test)` \\| ([^|]*) \\|").matcher(readme);
        while (row.find()) {
            told.add(row.group(1));
            for (int[] span : spans(row.group(2))) {
                for (int promise = span[0]; promise <= span[1]; promise++) {
                    isSpoken[promise] = true;
                }
            }
        }
        bench.due("README.md has " + told + " as tests, that they are " + there, told.equals(there), true);
        for (int promise = 1; promise <= PROMISES; promise++) {
            bench.due("README.md has a test of promise " + promise, isSpoken[promise], true);
        }
    }

    /** The promises that a cell tells, such as "2 to 4, 6". */
    private static List<int[]> spans(String cell) {
        List<int[]> spans = new ArrayList<>();
        Matcher span = Pattern.compile("(\\d+)(?: to (\\d+))?").matcher(cell);
        while (span.find()) {
            int first = Integer.parseInt(span.group(1));
            int last = span.group(2) == null ? first : Integer.parseInt(span.group(2));
            if (first >= 1 && last <= PROMISES) {
                spans.add(new int[] {first, last});
            }
        }
        return spans;
    }
}
