import java.io.ByteArrayOutputStream;
import java.io.IOException;
import java.io.PrintStream;
import java.lang.reflect.Method;
import java.lang.reflect.Modifier;
import java.net.URL;
import java.net.URLClassLoader;
import java.nio.charset.StandardCharsets;
import java.nio.file.Files;
import java.nio.file.Path;
import java.util.Comparator;
import java.util.List;
import java.util.stream.Collectors;
import java.util.stream.Stream;
import javax.tools.ToolProvider;

/** README.md: its example prints what it tells, and its tables have each call and each test. */
public final class ReadmeTest {
    private static String page;

    public static void main(String[] args) throws IOException, ReflectiveOperationException {
        page = Files.readString(Path.of("README.md"));
        example();
        calls();
        tests();
        Road.finish();
    }

    private static String block(String kind) {
        int from = page.indexOf("```" + kind + "\n");
        int to = page.indexOf("```\n", from + 3);
        Road.due("README.md has a block of " + kind, from >= 0 && to > from, true);
        return from >= 0 && to > from ? page.substring(page.indexOf('\n', from) + 1, to) : "";
    }

    private static void example() throws IOException, ReflectiveOperationException {
        Path folder = Files.createTempDirectory("readme");
        try {
            Path source = Files.writeString(folder.resolve("Example.java"), block("java"));
            int failed = ToolProvider.getSystemJavaCompiler().run(null, null, null, "-Xlint:all", "-Werror",
                    "-d", folder.toString(), "src/main/java/DuneRoad.java", source.toString());
            Road.due("the example compiles", failed, 0);
            if (failed == 0) {
                String printed = printedBy(folder);
                String told = block("text");
                Road.due("the example prints\n" + printed + "and README.md tells\n" + told, printed.equals(told), true);
            }
        } finally {
            delete(folder);
        }
    }

    private static String printedBy(Path folder) throws IOException, ReflectiveOperationException {
        PrintStream out = System.out;
        ByteArrayOutputStream printed = new ByteArrayOutputStream();
        URL[] only = {folder.toUri().toURL()};
        try (URLClassLoader loader = new URLClassLoader(only, ClassLoader.getPlatformClassLoader())) {
            Method main = loader.loadClass("Example").getMethod("main", String[].class);
            System.setOut(new PrintStream(printed, true, StandardCharsets.UTF_8));
            main.invoke(null, (Object) new String[0]);
        } finally {
            System.setOut(out);
        }
        return printed.toString(StandardCharsets.UTF_8).replace(System.lineSeparator(), "\n");
    }

    private static void delete(Path folder) throws IOException {
        List<Path> all;
        try (Stream<Path> paths = Files.walk(folder)) {
            all = paths.sorted(Comparator.reverseOrder()).collect(Collectors.toList());
        }
        for (Path each : all) {
            Files.delete(each);
        }
    }

    /** Each call of the document's face, with its arguments by name, once in the table of calls. */
    private static void calls() throws IOException {
        String document = Files.readString(Path.of("../shared/DOC.md"));
        for (Method method : DuneRoad.class.getDeclaredMethods()) {
            if (Modifier.isPublic(method.getModifiers())) {
                String name = method.getName();
                int from = document.indexOf(" " + name + "(") + 1;
                String face = document.substring(from, document.indexOf(';', from)).replaceAll("(int|boolean) ", "");
                Road.due("a row of README.md for " + face, rows("| `" + face + "` |"), 1);
            }
        }
        for (int promise = 2; promise <= 36; promise++) {
            Road.due("a row of README.md for promise " + promise, page.contains(" | " + promise + " |\n"), true);
        }
    }

    private static int rows(String start) {
        int count = 0;
        for (String line : page.split("\n")) {
            if (line.startsWith(start)) {
                count++;
            }
        }
        return count;
    }

    private static void tests() throws IOException {
        List<Path> files;
        try (Stream<Path> paths = Files.list(Path.of("src/test/java"))) {
            files = paths.sorted().collect(Collectors.toList());
        }
        for (Path file : files) {
            String name = file.getFileName().toString().replace(".java", "");
            Road.due("README.md tells of " + name, !name.endsWith("Test") || page.contains(name), true);
        }
    }
}
