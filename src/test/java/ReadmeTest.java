import java.net.URL;
import java.net.URLClassLoader;
import java.nio.file.Files;
import java.nio.file.Path;
import java.util.ArrayList;
import java.util.List;
import java.util.NoSuchElementException;
import java.util.regex.Matcher;
import java.util.regex.Pattern;
import javax.tools.JavaCompiler;
import javax.tools.ToolProvider;

/**
 * The examples of README.md, as they stand there: its java blocks are put together to one program, in which each call is
 * held against the answer that its comment tells, and that program is compiled and run.
 */
public final class ReadmeTest {
    private static final Path PAGE = Path.of("README.md");
    private static final Pattern CALL = Pattern.compile("((?:x|small)\\.(\\w+)\\(.*\\));\\s*// (throws (\\w+)|true|false|NONE|-?\\d+)(:.*)?");

    private final StringBuilder methods = new StringBuilder();
    private final StringBuilder statements = new StringBuilder();
    private final List<String> called = new ArrayList<>();

    public static void main(String[] args) throws Exception {
        ReadmeTest test = new ReadmeTest();
        test.takeBlocks(Files.readAllLines(PAGE));
        test.namesAllCalls(Files.readString(PAGE));
        test.namesAllTests(Files.readString(PAGE));
        test.run();
        Check.done("ReadmeTest");
    }

    // ---- what the program made of the page calls ----

    public static void is(String call, long got, long due) {
        Check.is("README.md: " + call, got, due);
    }

    public static void is(String call, boolean got, boolean due) {
        Check.is("README.md: " + call, got, due);
    }

    public interface Call {
        void run();
    }

    public static void refuses(String call, Class<? extends RuntimeException> due, Call run) {
        Check.refuses("README.md: " + call, due, () -> {
            run.run();
            return 0;
        });
    }

    // ---- the page ----

    private void takeBlocks(List<String> lines) {
        boolean inside = false;
        boolean method = false;
        for (String line : lines) {
            if (line.startsWith("```")) {
                inside = line.equals("```java");
                method = false;
            } else if (inside) {
                method = method || line.startsWith("static ");
                if (method) {
                    methods.append(line).append('\n');
                } else {
                    statements.append(statement(line)).append('\n');
                }
            }
        }
    }

    private String statement(String line) {
        Matcher call = CALL.matcher(line);
        if (!call.matches()) {
            boolean silent = line.startsWith("DotSpreader ") || line.startsWith("final ") || line.startsWith("tell(")
                    || line.startsWith("//") || line.startsWith(" ");
            Check.is("README.md tells an answer: " + line, silent, true);
            return line;
        }
        called.add(call.group(2));
        String text = "\"" + call.group(1) + "\", ";
        if (call.group(4) != null) {
            return "ReadmeTest.refuses(" + text + call.group(4) + ".class, () -> " + call.group(1) + ");";
        }
        return "ReadmeTest.is(" + text + call.group(1) + ", " + call.group(3) + ");";
    }

    /** Each call of the face stands in an example. */
    private void namesAllCalls(String page) {
        for (java.lang.reflect.Method method : DotSpreader.class.getMethods()) {
            if (method.getDeclaringClass() == DotSpreader.class) {
                Check.is("README.md has an example of " + method.getName(), called.contains(method.getName()), true);
                Check.is("README.md names " + method.getName(), page.contains("`" + method.getName() + "`"), true);
            }
        }
        for (Class<?> thrown : List.of(IndexOutOfBoundsException.class, IllegalArgumentException.class,
                NoSuchElementException.class)) {
            Check.is("README.md names " + thrown, page.contains("- `" + thrown.getSimpleName() + "`"), true);
        }
    }

    private void namesAllTests(String page) throws Exception {
        try (java.util.stream.Stream<Path> files = Files.list(Path.of("src/test/java"))) {
            files.map(file -> file.getFileName().toString().replace(".java", "")).forEach(name ->
                    Check.is("README.md tells of " + name, page.contains("`" + name + "`"), true));
        }
        Check.is("README.md tells how to run them", page.contains("`.ci/run`"), true);
    }

    private void run() throws Exception {
        Path directory = Files.createTempDirectory("readme");
        Path source = directory.resolve("ReadmeExample.java");
        Files.writeString(source, "import java.util.NoSuchElementException;\npublic final class ReadmeExample {\n"
                + "    private ReadmeExample() {\n    }\n" + methods + "    public static void examples() {\n"
                + statements + "    }\n}\n");
        JavaCompiler compiler = ToolProvider.getSystemJavaCompiler();
        int failed = compiler.run(null, null, null, "-proc:none", "-cp", System.getProperty("java.class.path"),
                "-d", directory.toString(), source.toString());
        Check.is("README.md: its examples compile", failed, 0);
        if (failed == 0) {
            try (URLClassLoader loader = new URLClassLoader(new URL[] {directory.toUri().toURL()})) {
                loader.loadClass("ReadmeExample").getMethod("examples").invoke(null);
            }
        }
        for (String name : new String[] {"ReadmeExample.class", "ReadmeExample.java"}) {
            Files.deleteIfExists(directory.resolve(name));
        }
        Files.deleteIfExists(directory);
    }
}
