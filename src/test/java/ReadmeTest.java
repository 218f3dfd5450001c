import java.io.ByteArrayOutputStream;
import java.io.IOException;
import java.io.PrintStream;
import java.net.URL;
import java.net.URLClassLoader;
import java.nio.charset.StandardCharsets;
import java.nio.file.DirectoryStream;
import java.nio.file.Files;
import java.nio.file.Path;
import java.util.ArrayList;
import java.util.Comparator;
import java.util.List;
import java.util.stream.Stream;
import javax.tools.ToolProvider;

/** README.md tells what is true: the example's answers, and which tests there are. Run in the project's folder. */
public final class ReadmeTest {
    private static final String PRINTING = "System.out.println(";
    private static final String NAME = "Example";

    private final Check check = new Check("ReadmeTest");
    private final List<String> page;

    private ReadmeTest(Path file) throws IOException {
        page = Files.readAllLines(file, StandardCharsets.UTF_8);
    }

    public static void main(String[] args) throws IOException, ReflectiveOperationException {
        ReadmeTest test = new ReadmeTest(Path.of("README.md"));
        test.exampleAnswersWhatStandsBesideIt();
        test.tableNamesAllTests(Path.of("src/test/java"));
        test.check.end();
    }

    private void exampleAnswersWhatStandsBesideIt() throws IOException, ReflectiveOperationException {
        List<String> example = block("```java");
        List<String> promised = new ArrayList<>();
        for (String line : example) {
            if (line.contains(PRINTING)) {
                promised.add(answerBeside(line));
            }
        }
        check.due("some answers are told", !promised.isEmpty(), true);
        check.due("what the example prints", String.join("\n", printed(example)), String.join("\n", promised));
    }

    /** The lines of the first block that begins with a sign. */
    private List<String> block(String sign) {
        int begin = page.indexOf(sign) + 1;
        int length = page.subList(begin, page.size()).indexOf("```");
        check.due("a block " + sign, begin > 0 && length > 0, true);
        return begin > 0 && length > 0 ? page.subList(begin, begin + length) : List.of();
    }

    private static String answerBeside(String line) {
        int begin = line.indexOf("// ");
        int end = line.indexOf(':', begin);
        return begin < 0 || end < 0 ? "none told" : line.substring(begin + 3, end);
    }

    private static List<String> printed(List<String> program) throws IOException, ReflectiveOperationException {
        Path folder = Files.createTempDirectory("readme");
        try {
            Path source = Files.write(folder.resolve(NAME + ".java"), program, StandardCharsets.UTF_8);
            ToolProvider.getSystemJavaCompiler().run(null, null, null, "-d", folder.toString(), "-cp",
                    System.getProperty("java.class.path"), source.toString());
            return run(folder);
        } finally {
            remove(folder);
        }
    }

    private static List<String> run(Path folder) throws IOException, ReflectiveOperationException {
        ByteArrayOutputStream text = new ByteArrayOutputStream();
        PrintStream usual = System.out;
        System.setOut(new PrintStream(text, true, StandardCharsets.UTF_8));
        try (URLClassLoader loader = new URLClassLoader(new URL[] {folder.toUri().toURL()})) {
            loader.loadClass(NAME).getMethod("main", String[].class).invoke(null, (Object) new String[0]);
        } finally {
            System.setOut(usual);
        }
        return text.toString(StandardCharsets.UTF_8).lines().toList();
    }

    private static void remove(Path folder) throws IOException {
        try (Stream<Path> files = Files.walk(folder)) {
            for (Path file : files.sorted(Comparator.reverseOrder()).toList()) {
                Files.delete(file);
            }
        }
    }

    private void tableNamesAllTests(Path folder) throws IOException {
        String rows = String.join("\n", page.stream().filter(line -> line.startsWith("| `")).toList());
        try (DirectoryStream<Path> tests = Files.newDirectoryStream(folder, "*Test.java")) {
            for (Path test : tests) {
                String name = test.getFileName().toString().replace(".java", "");
                check.due("the table names " + name, rows.contains("`" + name + "`"), true);
            }
        }
    }
}
