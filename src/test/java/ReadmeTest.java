import java.io.ByteArrayOutputStream;
import java.io.IOException;
import java.io.PrintStream;
import java.net.URL;
import java.net.URLClassLoader;
import java.nio.file.Files;
import java.nio.file.Path;
import java.util.ArrayList;
import java.util.List;
import java.util.regex.Matcher;
import java.util.regex.Pattern;
import javax.tools.JavaCompiler;
import javax.tools.ToolProvider;

/** What README.md says holds: its program prints the numbers that stand behind its lines; its tests are those here. */
public final class ReadmeTest {
    public static void main(String[] args) throws Exception {
        String readme = Files.readString(Path.of("README.md"));
        exampleHolds(readme);
        testsAreTold(readme);
        Due.due("the script that it names can be run", Files.isExecutable(Path.of(".ci/run")) ? 1 : 0, 1);
        Due.end();
    }

    private static void exampleHolds(String readme) throws Exception {
        Matcher block = Pattern.compile("```java\n(.*?)```", Pattern.DOTALL).matcher(readme);
        Due.due("a program is there", block.find() ? 1 : 0, 1);
        String program = block.group(1);
        List<String> printed = linesPrintedBy(program);
        List<String> due = new ArrayList<>();
        Matcher line = Pattern.compile("println\\((.*)\\); *// (-?\\d+):").matcher(program);
        while (line.find()) {
            Due.due(line.group(1) + " is printed", printed.size() > due.size() ? 1 : 0, 1);
            if (printed.size() > due.size()) {
                Due.due(line.group(1), Long.parseLong(printed.get(due.size())), Long.parseLong(line.group(2)));
            }
            due.add(line.group(2));
        }
        Due.due("lines with a number behind them", due.size(), printed.size());
    }

    private static List<String> linesPrintedBy(String program) throws Exception {
        Path folder = Files.createTempDirectory("readme");
        Path file = folder.resolve("Example.java");
        Files.writeString(file, program);
        JavaCompiler javac = ToolProvider.getSystemJavaCompiler();
        String main = "src/main/java/RiverBureau.java";
        Due.due("it compiles", javac.run(null, null, null, "-d", folder.toString(), main, file.toString()), 0);
        PrintStream out = System.out;
        ByteArrayOutputStream taken = new ByteArrayOutputStream();
        try (URLClassLoader loader = new URLClassLoader(new URL[] {folder.toUri().toURL()}, null)) {
            System.setOut(new PrintStream(taken, true));
            loader.loadClass("Example").getMethod("main", String[].class).invoke(null, (Object) new String[0]);
        } finally {
            System.setOut(out);
            remove(folder);
        }
        return taken.toString().lines().toList();
    }

    private static void remove(Path folder) throws IOException {
        try (var files = Files.list(folder)) {
            for (Path file : files.toList()) {
                Files.delete(file);
            }
        }
        Files.delete(folder);
    }

    private static void testsAreTold(String readme) throws IOException {
        try (var files = Files.list(Path.of("src/test/java"))) {
            for (Path file : files.filter(f -> f.toString().endsWith("Test.java")).toList()) {
                String name = file.getFileName().toString().replace(".java", "");
                Due.due(name + " is told of", readme.contains("| " + name + " |") ? 1 : 0, 1);
            }
        }
        Matcher row = Pattern.compile("\\| (\\w+Test) \\|").matcher(readme);
        while (row.find()) {
            Path file = Path.of("src/test/java", row.group(1) + ".java");
            Due.due(row.group(1) + " is there", Files.exists(file) ? 1 : 0, 1);
        }
    }
}
