import java.io.IOException;
import java.nio.file.Files;
import java.nio.file.Path;
import java.nio.file.Paths;
import java.util.List;
import java.util.regex.Matcher;
import java.util.regex.Pattern;

/** Some of the rules of LANGUAGE.md, as far as the lines of the program tell; and how much a new object takes. */
public final class LanguageTest {
    private static final String[] FORBIDDEN = {"->", "::", "\\btry\\b", "\\bcatch\\b", "\\bfinally\\b",
        "\\bsynchronized\\b", "\\bassert\\b", "\\bdouble\\b", "\\bfloat\\b", "\\w+Exact\\b", "\\bMath\\.random\\b",
        "\\bSystem\\.(?!arraycopy\\b)", "\\bArrays\\.(?!fill\\b|copyOf\\b|copyOfRange\\b)", "\\bequals\\(",
        "\\bhashCode\\b", "\\btoString\\b", "\\bwhile \\(true\\)", "\\bfor \\(;;"};

    public static void main(String[] args) throws IOException {
        Path path = Paths.get("src/main/java/ShapeWorkshop.java");
        if (!Files.exists(path)) {
            System.out.println("LanguageTest: run from the project's folder");
            System.exit(1);
        }
        List<String> lines = Files.readAllLines(path);
        int classes = 0;
        for (int i = 0; i < lines.size(); i++) {
            String line = lines.get(i);
            String code = line.replaceAll("^\\s*(//|/?\\*).*", "").replaceAll("//.*", "");
            for (String forbidden : FORBIDDEN) {
                Bench.holds("line " + (i + 1) + " has no " + forbidden + ": " + line,
                        !Pattern.compile(forbidden).matcher(code).find());
            }
            Bench.holds("line " + (i + 1) + " is short enough", line.length() <= 120);
            Bench.holds("import of line " + (i + 1),
                    !code.startsWith("import") || code.equals("import java.util.Arrays;"));
            Bench.holds("line " + (i + 1) + ": static is final or a method",
                    !code.matches("\\s*(private |public )?static (?!final|int|long|boolean|String|void|Shape).*"));
            classes += code.contains(" class ") ? 1 : 0;
        }
        Bench.holds("twelve classes at most, there are " + classes, classes <= 12);
        methods(lines);
        Bench.close("LanguageTest");
    }

    private static void methods(List<String> lines) {
        Pattern head = Pattern.compile("^( {4,8})(?! )(?:\\w+[\\[\\]]* )+(\\w+)\\((.*)");
        for (int i = 0; i < lines.size(); i++) {
            Matcher matcher = head.matcher(lines.get(i));
            if (!matcher.matches() || lines.get(i).contains("new ") || lines.get(i).endsWith(";")) {
                continue;
            }
            int end = i;
            while (end + 1 < lines.size() && !lines.get(end).equals(matcher.group(1) + "}")) {
                end++;
            }
            Bench.holds("method " + matcher.group(2) + " has sixty lines at most", end - i < 60);
            int commas = matcher.group(3).length() - matcher.group(3).replace(",", "").length();
            Bench.holds("method " + matcher.group(2) + " has seven parameters at most", commas < 7);
        }
    }
}
