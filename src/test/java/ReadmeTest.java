import java.io.ByteArrayOutputStream;
import java.io.PrintStream;
import java.net.URL;
import java.net.URLClassLoader;
import java.nio.charset.StandardCharsets;
import java.nio.file.Files;
import java.nio.file.Path;
import java.util.List;
import java.util.stream.Collectors;
import java.util.stream.Stream;
import javax.tools.ToolProvider;

/** What README.md says: its texts are taken, its program prints what it says, its table has every test. */
public final class ReadmeTest {
    private static final String INDENT = "    ";

    private ReadmeTest() {
    }

    public static void main(String[] args) throws Exception {
        String page = Files.readString(Path.of("README.md"), StandardCharsets.US_ASCII);
        textsAreTaken(page);
        programPrints(block(page, "```java\n"), block(page, "```text\n"));
        tableHasEveryTest(page);
        Check.end();
    }

    private static String block(String page, String begins) {
        int from = page.indexOf(begins) + begins.length();
        return page.substring(from, page.indexOf("```", from));
    }

    private static void textsAreTaken(String page) {
        List<String> rows = page.lines().filter(line -> line.startsWith(INDENT)).collect(Collectors.toList());
        LastPebble x = new LastPebble();
        String beach = rows.stream().filter(row -> row.startsWith(INDENT + "beach ")).findFirst().orElse("");
        Check.told(x, "the beach of README.md", Check.beach(x, beach), 1);
        String days = rows.stream().filter(row -> row.startsWith(INDENT + "loop ")).findFirst().orElse("");
        Check.told(x, "the days of README.md", Check.days(x, days), 6);
    }

    private static void programPrints(String program, String due) throws Exception {
        Path folder = Files.createTempDirectory("readme");
        Path source = folder.resolve("Example.java");
        Files.writeString(source, program);
        int failed = ToolProvider.getSystemJavaCompiler().run(null, null, null, "-d", folder.toString(), "-cp",
                System.getProperty("java.class.path"), source.toString());
        Check.due("compiling the program of README.md", failed, 0);
        ByteArrayOutputStream printed = new ByteArrayOutputStream();
        PrintStream out = System.out;
        try (URLClassLoader loader = new URLClassLoader(new URL[] {folder.toUri().toURL()})) {
            System.setOut(new PrintStream(printed, true));
            loader.loadClass("Example").getMethod("main", String[].class).invoke(null, (Object) new String[0]);
        } finally {
            System.setOut(out);
        }
        String got = printed.toString().replace(System.lineSeparator(), "\n");
        Check.due("the program of README.md prints as it says", got.equals(due), true);
        if (!got.equals(due)) {
            System.out.println(got);
        }
        for (String name : List.of("Example.class", "Example.java", "")) {
            Files.delete(folder.resolve(name));
        }
    }

    private static void tableHasEveryTest(String page) throws Exception {
        List<Path> files;
        try (Stream<Path> all = Files.list(Path.of("src/test/java"))) {
            files = all.collect(Collectors.toList());
        }
        for (Path file : files) {
            String name = file.getFileName().toString().replace(".java", "");
            boolean test = Files.readString(file).contains("void main(");
            Check.due("README.md on " + name, page.contains((test ? "| `" : "`") + name + "`"), true);
        }
    }
}
