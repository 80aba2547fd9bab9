import java.io.IOException;
import java.io.PrintStream;
import java.net.URL;
import java.net.URLClassLoader;
import java.nio.charset.StandardCharsets;
import java.nio.file.Files;
import java.nio.file.Path;
import java.nio.file.Paths;
import java.util.Comparator;
import java.util.List;
import java.util.TreeSet;
import java.util.regex.Matcher;
import java.util.regex.Pattern;
import java.util.stream.Stream;
import javax.tools.JavaCompiler;
import javax.tools.ToolProvider;

/** The lines of README.md that are a program are compiled as one, and answer what stands behind them. */
public final class ReadmeTest {
    private static final Pattern TOLD = Pattern.compile("(.*\\S);\\s+// (-> |throws )(.*)");
    private static final Pattern METHOD = Pattern.compile(
            "    public (?:int|long|boolean|void) (\\w+)\\(.*");

    /** What a line of README.md answers; its lines are put into functions of this kind. */
    public interface Line {
        Object answer();
    }

    public static void main(String[] args) throws Exception {
        Path readme = Paths.get("README.md");
        if (!Files.exists(readme)) {
            System.out.println("ReadmeTest: run from the project's folder");
            System.exit(1);
        }
        String program = programOf(Files.readAllLines(readme));
        everyMethodIsShown(program);
        Path folder = Files.createTempDirectory("readme");
        try {
            run(folder, program);
        } finally {
            clear(folder);
        }
        Bench.close("ReadmeTest");
    }

    /** Called by the program made of README.md. */
    public static void told(String text, Line line, String due) {
        String got;
        try {
            got = "-> " + line.answer();
        } catch (RuntimeException e) {
            got = "throws " + e.getClass().getSimpleName();
        }
        Bench.due("README.md: " + text, got, due);
    }

    private static String programOf(List<String> lines) {
        StringBuilder members = new StringBuilder();
        StringBuilder body = new StringBuilder();
        boolean inside = false;
        boolean member = false;
        for (String line : lines) {
            if (line.startsWith("```")) {
                inside = line.equals("```java");
            } else if (inside) {
                member = line.startsWith("static ") || member;
                (member ? members : body).append(member ? line : called(line)).append('\n');
                member = member && !line.equals("}");
            }
        }
        return "final class Readme {\n" + members + "static void run() {\n" + body + "}\n}\n";
    }

    /** A line with an answer becomes a question; others stay. */
    private static String called(String line) {
        Matcher matcher = TOLD.matcher(line);
        if (!matcher.matches()) {
            return line;
        }
        String call = matcher.group(1);
        String answer = call.startsWith("shop.point(") ? "{ " + call + "; return null; }" : call;
        return "ReadmeTest.told(" + quoted(call) + ", () -> " + answer + ", "
                + quoted(matcher.group(2) + matcher.group(3).trim()) + ");";
    }

    private static String quoted(String text) {
        return '"' + text.replace("\\", "\\\\").replace("\"", "\\\"") + '"';
    }

    private static void everyMethodIsShown(String program) throws IOException {
        TreeSet<String> names = new TreeSet<>();
        for (String line : Files.readAllLines(Paths.get("../shared/DOC.md"))) {
            Matcher matcher = METHOD.matcher(line);
            if (matcher.matches()) {
                names.add(matcher.group(1));
            }
        }
        Bench.holds("the document tells methods", names.size() > 30);
        for (String name : names) {
            Bench.holds("README.md shows a call of " + name, program.contains("." + name + "("));
        }
    }

    private static void run(Path folder, String program) throws Exception {
        Path source = folder.resolve("Readme.java");
        Files.write(source, program.getBytes(StandardCharsets.UTF_8));
        JavaCompiler compiler = ToolProvider.getSystemJavaCompiler();
        PrintStream out = System.out;
        int code = compiler == null ? 1 : compiler.run(null, out, out, "-cp", System.getProperty("java.class.path"),
                "-d", folder.toString(), source.toString());
        Bench.due("compiling the lines of README.md", code, 0);
        if (code != 0) {
            return;
        }
        URL[] from = {folder.toUri().toURL()};
        try (URLClassLoader loader = new URLClassLoader(from, ReadmeTest.class.getClassLoader())) {
            java.lang.reflect.Method method = loader.loadClass("Readme").getDeclaredMethod("run");
            method.setAccessible(true);
            method.invoke(null);
        }
    }

    private static void clear(Path folder) throws IOException {
        try (Stream<Path> paths = Files.walk(folder)) {
            for (Path path : (Iterable<Path>) paths.sorted(Comparator.reverseOrder())::iterator) {
                Files.delete(path);
            }
        }
    }
}
