import java.io.ByteArrayOutputStream;
import java.io.IOException;
import java.io.PrintStream;
import java.lang.reflect.Method;
import java.net.URI;
import java.net.URL;
import java.net.URLClassLoader;
import java.nio.charset.StandardCharsets;
import java.nio.file.Files;
import java.nio.file.Path;
import java.util.ArrayList;
import java.util.Comparator;
import java.util.List;
import java.util.regex.Matcher;
import java.util.regex.Pattern;
import java.util.stream.Stream;
import javax.tools.JavaCompiler;
import javax.tools.SimpleJavaFileObject;
import javax.tools.ToolProvider;

/** What README.md says holds: its example prints what stands there, its lines are right, its tests are there. */
public final class ReadmeTest {
    private static final Pattern PROGRAM = Pattern.compile("```java\n(.*?)```.*?```text\n(.*?)```", Pattern.DOTALL);
    private static final Pattern LINE = Pattern.compile("^\\| `([a-z]+ [^`]*;)` \\|", Pattern.MULTILINE);
    private static final Pattern TEST = Pattern.compile("`(\\w+Test)`");
    private static final int LINES = 12;

    public static void main(String[] args) throws IOException, ReflectiveOperationException {
        String page = Files.readString(Path.of("README.md"));
        example(page);
        linesOfTexts(page);
        namesOfTests(page);
        Check.finish();
    }

    private static void example(String page) throws IOException, ReflectiveOperationException {
        Matcher program = PROGRAM.matcher(page);
        if (!program.find()) {
            Check.report("README.md has no example with what it prints");
            return;
        }
        Path place = Files.createTempDirectory("readme");
        try {
            String got = compiles(program.group(1), place) ? printed(place) : "nothing, as it does not compile";
            if (!got.equals(program.group(2))) {
                Check.report("the example of README.md prints\n" + got + "and not\n" + program.group(2));
            }
        } finally {
            remove(place);
        }
    }

    private static boolean compiles(String source, Path place) {
        JavaCompiler compiler = ToolProvider.getSystemJavaCompiler();
        SimpleJavaFileObject file = new SimpleJavaFileObject(URI.create("string:///Example.java"),
                SimpleJavaFileObject.Kind.SOURCE) {
            @Override
            public CharSequence getCharContent(boolean ignoring) {
                return source;
            }
        };
        List<String> options = List.of("-d", place.toString(), "-cp", System.getProperty("java.class.path"));
        return compiler.getTask(null, null, null, options, null, List.of(file)).call();
    }

    private static String printed(Path place) throws IOException, ReflectiveOperationException {
        ByteArrayOutputStream bytes = new ByteArrayOutputStream();
        PrintStream old = System.out;
        try (URLClassLoader loader = new URLClassLoader(new URL[] {place.toUri().toURL()})) {
            Method main = loader.loadClass("Example").getMethod("main", String[].class);
            System.setOut(new PrintStream(bytes, true, StandardCharsets.ISO_8859_1));
            main.invoke(null, (Object) new String[0]);
        } finally {
            System.setOut(old);
        }
        return bytes.toString(StandardCharsets.ISO_8859_1).replace(System.lineSeparator(), "\n");
    }

    private static void remove(Path place) throws IOException {
        try (Stream<Path> files = Files.walk(place)) {
            for (Path file : files.sorted(Comparator.reverseOrder()).toList()) {
                Files.delete(file);
            }
        }
    }

    /** The lines stand in an order in which they make a text. */
    private static void linesOfTexts(String page) {
        StringBuilder text = new StringBuilder("element loop jump 60;");
        int lines = 0;
        Matcher line = LINE.matcher(page);
        while (line.find()) {
            text.append(line.group(1));
            lines++;
        }
        int seen = lines;
        Check.due("lines of a text in README.md", LINES, () -> seen);
        Check.asked(text.toString(), "count(1)", 1, x -> x.count(1));
        Check.asked(text.toString(), "count(10)", 1, x -> x.count(10));
        Check.asked(text.toString(), "count(20)", 1, x -> x.count(20));
    }

    private static void namesOfTests(String page) throws IOException {
        List<String> named = new ArrayList<>();
        Matcher test = TEST.matcher(page);
        while (test.find()) {
            named.add(test.group(1) + ".java");
        }
        try (Stream<Path> files = Files.list(Path.of("src/test/java"))) {
            List<String> there = files.map(file -> file.getFileName().toString()).filter(file -> file.endsWith("Test.java")).toList();
            for (String file : named) {
                if (!there.contains(file)) {
                    Check.report("README.md names " + file + ", which is not there");
                }
            }
            for (String file : there) {
                if (!named.contains(file)) {
                    Check.report("README.md does not name " + file);
                }
            }
        }
    }
}
