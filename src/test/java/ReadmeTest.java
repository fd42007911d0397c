import java.io.ByteArrayOutputStream;
import java.io.File;
import java.io.IOException;
import java.io.PrintStream;
import java.lang.reflect.Method;
import java.lang.reflect.Modifier;
import java.net.URL;
import java.net.URLClassLoader;
import java.nio.file.Files;
import java.nio.file.Path;
import java.util.ArrayList;
import java.util.List;
import java.util.regex.Matcher;
import java.util.regex.Pattern;
import java.util.stream.Stream;
import javax.tools.JavaCompiler;
import javax.tools.ToolProvider;

/** What README.md says to somebody who has only the project holds: its example, its tables, its commands. */
public final class ReadmeTest {

    private static final Path README = Path.of("README.md");
    private static final Path TESTS = Path.of("src/test/java");

    public static void main(String[] args) throws Exception {
        String text = Files.readString(README);
        theExamplePrintsWhatIsSaid(text);
        eachCallHasARow(text);
        theExceptionsStandInTheirOrder(text);
        theFilesAreThere(text);
        eachTestIsNamed(text);
        Check.end("ReadmeTest");
    }

    // ---- the example

    private static void theExamplePrintsWhatIsSaid(String text) throws Exception {
        Path folder = Files.createTempDirectory("readme");
        try {
            Path example = folder.resolve("Example.java");
            Files.writeString(example, block(text, "java"));
            JavaCompiler compiler = ToolProvider.getSystemJavaCompiler();
            int failed = compiler.run(null, System.out, System.out, "-d", folder.toString(),
                    "src/main/java/HoseTests.java", example.toString());
            Check.same("exit code of javac for the example", failed, 0);
            String printed = failed == 0 ? outputOf(folder) : "";
            Check.isTrue("the example prints what README.md says, not\n" + printed,
                    printed.equals(block(text, "text")));
        } finally {
            delete(folder);
        }
    }

    /** The first block of that language; fences stand at the beginning of a line. */
    private static String block(String text, String language) {
        Matcher m = Pattern.compile("(?ms)^```" + language + "\n(.*?)^```$").matcher(text);
        return m.find() ? m.group(1) : "";
    }

    private static String outputOf(Path folder) throws Exception {
        PrintStream before = System.out;
        ByteArrayOutputStream bytes = new ByteArrayOutputStream();
        URL[] place = {folder.toUri().toURL()};
        // without this test's own classes, so that the example meets the class that was compiled with it
        try (URLClassLoader loader = new URLClassLoader(place, ClassLoader.getPlatformClassLoader())) {
            System.setOut(new PrintStream(bytes, true));
            Method main = loader.loadClass("Example").getMethod("main", String[].class);
            main.invoke(null, (Object) new String[0]);
        } finally {
            System.setOut(before);
        }
        return bytes.toString().replace(System.lineSeparator(), "\n");
    }

    private static void delete(Path folder) throws IOException {
        File[] files = folder.toFile().listFiles();
        for (File file : files == null ? new File[0] : files) {
            Files.delete(file.toPath());
        }
        Files.delete(folder);
    }

    // ---- the tables

    private static void eachCallHasARow(String text) {
        int calls = 0;
        for (Method m : HoseTests.class.getDeclaredMethods()) {
            if (Modifier.isPublic(m.getModifiers())) {
                calls++;
                Matcher row = Pattern.compile("(?m)^\\| `" + m.getName() + "\\(([^)]*)\\)` \\|").matcher(text);
                Check.isTrue(m.getName() + " has a row", row.find());
                String names = row.reset().find() ? row.group(1) : "";
                int parameters = names.isEmpty() ? 0 : names.split(", ").length;
                Check.same("parameters of " + m.getName(), parameters, m.getParameterCount());
            }
        }
        long rows = text.lines().filter(line -> line.matches("\\| `\\w+\\(.*")).count();
        Check.same("rows of calls", rows, calls);
    }

    private static void theExceptionsStandInTheirOrder(String text) {
        List<String> order = new ArrayList<>();
        Matcher row = Pattern.compile("(?m)^\\| `(\\w+Exception)` \\|").matcher(text);
        while (row.find()) {
            order.add(row.group(1));
        }
        for (Method m : HoseTests.class.getDeclaredMethods()) {
            if (!Modifier.isPublic(m.getModifiers())) {
                continue;
            }
            int last = -1;
            for (Class<?> thrown : m.getExceptionTypes()) {
                int place = order.indexOf(thrown.getSimpleName());
                Check.isTrue(m.getName() + ": " + thrown.getSimpleName() + " stands below what comes first",
                        place > last);
                last = place;
            }
        }
    }

    // ---- the files

    private static void theFilesAreThere(String text) {
        Matcher m = Pattern.compile("(?:src/|\\.ci/)[\\w/]+(?:\\.java)?").matcher(text);
        int found = 0;
        while (m.find()) {
            found++;
            Check.isTrue(m.group() + " is there", Files.exists(Path.of(m.group())));
        }
        Check.isTrue("files are named", found > 0);
        Check.isTrue(".ci/run can be run", Files.isExecutable(Path.of(".ci/run")));
    }

    private static void eachTestIsNamed(String text) throws IOException {
        try (Stream<Path> files = Files.list(TESTS)) {
            for (Path file : files.toList()) {
                String name = file.getFileName().toString().replace(".java", "");
                Check.isTrue(name + " is named", text.contains("`" + name + "`"));
            }
        }
    }
}
