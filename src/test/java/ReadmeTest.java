import java.io.IOException;
import java.lang.reflect.InvocationTargetException;
import java.net.URL;
import java.net.URLClassLoader;
import java.nio.charset.StandardCharsets;
import java.nio.file.Files;
import java.nio.file.Path;
import java.util.ArrayList;
import java.util.List;
import java.util.Set;
import java.util.TreeSet;
import java.util.regex.Matcher;
import java.util.regex.Pattern;
import java.util.stream.Stream;
import javax.tools.JavaCompiler;
import javax.tools.ToolProvider;

/** The examples of README.md, compiled as they stand there: each call answers what is told behind it. */
public final class ReadmeTest {
    private static final Check C = new Check("readme");
    private static final Path PAGE = Path.of("README.md"), TESTS = Path.of("src/test/java"), OUT = Path.of("build/readme");
    private static final String NAME = "ReadmeExamples";
    private static final Pattern CALL = Pattern.compile("((?:x\\.|read\\(x, ).*\\)); +// (-?\\d+|NONE|BAD|STATE|FULL)\\b.*");
    private static final Pattern SHELL = Pattern.compile("(?m)^```sh\n(.*)\n```$");
    private static final Pattern ROW = Pattern.compile("(?m)^\\| (-?\\d+) \\| `?([A-Z]+)`? \\|");

    public static void main(String[] args) throws IOException, ReflectiveOperationException {
        String page = Files.readString(PAGE, StandardCharsets.UTF_8);
        C.sentence("what it shows as an example must be what the class answers");
        run(program(blocks(page)));
        answers(page);
        C.sentence("how the tests are run");
        Matcher shell = SHELL.matcher(page);
        C.holds("a script is told", shell.find());
        C.holds("it can be run", Files.isExecutable(Path.of(shell.group(1))));
        tests(page);
        C.end();
    }

    /** Asked for by the examples as they run. */
    public static void due(String call, int got, int want) {
        C.due(call, got, want);
    }

    private static List<String> blocks(String page) {
        List<String> blocks = new ArrayList<>();
        Matcher found = Pattern.compile("(?ms)^```java\n(.*?)^```$").matcher(page);
        while (found.find()) {
            blocks.add(found.group(1));
        }
        C.holds("there are examples", blocks.size() >= 5);
        return blocks;
    }

    /** A block that begins a method stands beside the main one, all others in it, one behind the other. */
    private static String program(List<String> blocks) {
        StringBuilder members = new StringBuilder();
        StringBuilder body = new StringBuilder();
        for (String block : blocks) {
            if (block.startsWith("static ")) {
                members.append(block);
                continue;
            }
            for (String line : block.split("\n")) {
                body.append(statement(line)).append('\n');
            }
        }
        return "public final class " + NAME + " {\n" + members + "public static void main(String[] args) {\n" + body + "}\n"
            + "static final int NONE = BumperBalls.NONE, BAD = BumperBalls.BAD, STATE = BumperBalls.STATE,"
            + " FULL = BumperBalls.FULL;\n}\n";
    }

    private static String statement(String line) {
        Matcher call = CALL.matcher(line);
        if (call.matches()) {
            String words = call.group(1).replace("\\", "\\\\").replace("\"", "\\\"");
            return "ReadmeTest.due(\"" + words + "\", " + call.group(1) + ", " + call.group(2) + ");";
        }
        C.holds("'" + line + "' tells what it answers", !line.startsWith("x.") && !line.startsWith("read("));
        return line;
    }

    private static void run(String program) throws IOException, ReflectiveOperationException {
        Files.createDirectories(OUT);
        Path file = OUT.resolve(NAME + ".java");
        Files.writeString(file, program, StandardCharsets.UTF_8);
        JavaCompiler compiler = ToolProvider.getSystemJavaCompiler();
        int failed = compiler.run(null, null, null, "-proc:none", "-encoding", "UTF-8", "-cp",
            System.getProperty("java.class.path"), "-d", OUT.toString(), file.toString());
        C.due("the examples are compiled", failed, 0);
        try (URLClassLoader loader = new URLClassLoader(new URL[] {OUT.toUri().toURL()})) {
            loader.loadClass(NAME).getMethod("main", String[].class).invoke(null, (Object) new String[0]);
        } catch (InvocationTargetException thrown) {
            C.holds("no call throws: " + thrown.getCause(), false);
        }
    }

    /** The table of answers: each refusal and finding with its number. */
    private static void answers(String page) {
        Set<String> told = new TreeSet<>();
        Matcher rows = ROW.matcher(page);
        while (rows.find()) {
            told.add(rows.group(2) + " " + rows.group(1));
        }
        Set<String> due = Set.of("NONE " + Check.NONE, "BAD " + Check.BAD, "STATE " + Check.STATE, "FULL " + Check.FULL,
            "NULL " + Check.NULL, "PLACE " + Check.PLACE, "KIND " + Check.KIND, "SIZE " + Check.SIZE, "STORE " + Check.STORE);
        C.holds("the answers told are " + due + ": " + told, told.equals(due));
    }

    /** The tests that are named are those that there are. */
    private static void tests(String page) throws IOException {
        Set<String> named = new TreeSet<>();
        Matcher names = Pattern.compile("`(\\w+Test)`").matcher(page);
        while (names.find()) {
            named.add(names.group(1) + ".java");
        }
        try (Stream<Path> files = Files.list(TESTS)) {
            Set<String> there = new TreeSet<>();
            files.map(f -> f.getFileName().toString()).filter(f -> f.endsWith("Test.java")).forEach(there::add);
            C.holds("the tests named are " + there + ": " + named, named.equals(there));
        }
    }
}
