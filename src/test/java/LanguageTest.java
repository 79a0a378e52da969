import java.io.IOException;
import java.nio.file.Files;
import java.nio.file.Path;
import java.util.List;
import java.util.regex.Matcher;
import java.util.regex.Pattern;

/** Rules of LANGUAGE.md that the source itself shows, line by line. */
public final class LanguageTest {
    private static final String[] NEVER = {"->", "::", "\\btry\\b", "\\bcatch\\b", "\\bfinally\\b", "\\bsynchronized\\b",
        "\\bassert\\b", "\\bprotected\\b", "\\bvar\\b", "Exact\\(", "\\brecord\\b", "\\.equals\\(", "\\.hashCode\\(",
        "\\.toString\\(", "\\bstatic \\{", "\\bdouble\\b", "\\bfloat\\b", "\\bSystem\\.(?!arraycopy)", "\\bpackage\\b",
        "getMessage", "\" \\+", "\\+ \""};
    private static final Pattern METHOD = Pattern.compile(
            "^( {4}| {8})(?:(?:public|private|static) )*[\\w\\[\\]]+ (\\w+)\\(([^)]*)\\).*\\{$");
    private static final int LINES_MOST = 60;
    private static final int PARAMETERS_MOST = 7;

    public static void main(String[] args) throws IOException {
        List<String> lines = Files.readAllLines(Path.of("src/main/java/IceJudge.java"));
        int methods = 0;
        int classes = 0;
        for (int i = 0; i < lines.size(); i++) {
            String code = lines.get(i).replaceAll("//.*|^\\s*/?\\*.*", "");
            words(code, i + 1);
            classes += code.matches(".*\\bclass \\w+.*") ? 1 : 0;
            Matcher method = METHOD.matcher(code);
            if (method.matches()) {
                methods++;
                method(lines, i, method);
            }
        }
        if (methods < 100 || classes > 12) {
            Check.report(methods + " methods and " + classes + " classes were seen");
        }
        Check.finish();
    }

    private static void words(String code, int line) {
        for (String never : NEVER) {
            if (Pattern.compile(never).matcher(code).find()) {
                Check.report("line " + line + " has " + never + ": " + code.trim());
            }
        }
        if (code.startsWith("import") && !code.matches("import java\\.util\\.(Arrays|NoSuchElementException);")) {
            Check.report("line " + line + " imports more: " + code);
        }
        boolean field = code.matches("^ +(private |public )?static .*(=|;).*") && !code.contains("(");
        if (field && !code.contains("static final")) {
            Check.report("line " + line + " has a static field that is not final: " + code.trim());
        }
    }

    private static void method(List<String> lines, int from, Matcher method) {
        int to = from;
        while (!lines.get(to).equals(method.group(1) + "}")) {
            to++;
        }
        int parameters = method.group(3).isEmpty() ? 0 : method.group(3).split(",").length;
        if (to - from > LINES_MOST || parameters > PARAMETERS_MOST) {
            Check.report(method.group(2) + " has " + (to - from) + " lines and " + parameters + " parameters");
        }
    }
}
