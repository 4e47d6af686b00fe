import java.io.IOException;
import java.net.URL;
import java.net.URLClassLoader;
import java.nio.file.Files;
import java.nio.file.Path;
import java.util.ArrayList;
import java.util.List;
import java.util.Set;
import java.util.TreeSet;
import java.util.regex.Matcher;
import java.util.regex.Pattern;
import javax.tools.ToolProvider;

/**
 * What README.md shows of calls is compiled and run as it stands there, and each answer that it shows is held against
 * the one that the class gives.
 */
public final class ReadmeTest {
    private static final Path README = Path.of("README.md");
    private static final Pattern SHOWN = Pattern.compile(
        "(.+);\\s+// (throws NoSuchElementException|true|false|NONE|HIDDEN|Long\\.MIN_VALUE|-?\\d+)(:.*)?");
    /** What README.md must show at work; the others may be left to the document. */
    private static final String[] MUST_BE_SHOWN = {"feed", "end", "fault", "unit", "rule", "value", "job", "orders", "drop",
        "link", "linked", "clock", "hold", "told", "result", "trace", "image", "back", "waits", "status", "count"};

    private final StringBuilder methods = new StringBuilder();
    private final StringBuilder calls = new StringBuilder();
    private final Set<String> shown = new TreeSet<>();

    private ReadmeTest() {
    }

    public static void main(String[] args) throws IOException, ReflectiveOperationException {
        if (!Files.exists(README)) {
            Check.yes("README.md is in the directory from which tests are run", false);
            Check.end();
            return;
        }
        String text = Files.readString(README);
        new ReadmeTest().run(text);
        Check.yes("the command that runs all tests", text.contains("\n.ci/run\n"));
        everyTestIsNamed(text);
        Check.end();
    }

    private static void everyTestIsNamed(String text) throws IOException {
        try (var files = Files.list(Path.of("src/test/java"))) {
            for (Path file : (Iterable<Path>) files::iterator) {
                String name = file.getFileName().toString().replace(".java", "");
                Check.yes("README.md names " + name, !name.endsWith("Test") || text.contains("`" + name + "`"));
            }
        }
    }

    private void run(String text) throws IOException, ReflectiveOperationException {
        for (String block : blocks(text)) {
            if (block.startsWith("static ")) {
                methods.append(block);
            } else {
                block.lines().forEach(this::take);
            }
        }
        for (String name : MUST_BE_SHOWN) {
            Check.yes("README.md shows " + name, shown.contains(name));
        }
        Path made = Files.createTempDirectory("readme");
        Path source = made.resolve("Shown.java");
        Files.writeString(source, program());
        int failed = ToolProvider.getSystemJavaCompiler().run(null, null, null, "-classpath",
            System.getProperty("java.class.path"), "-d", made.toString(), source.toString());
        Check.same("what README.md shows compiles", failed, 0);
        if (failed == 0) {
            hold(made);
        }
        for (String name : new String[] {"Shown.class", "Shown.java", ""}) {
            Files.deleteIfExists(made.resolve(name));
        }
    }

    private static List<String> blocks(String text) {
        List<String> all = new ArrayList<>();
        Matcher block = Pattern.compile("^```java\\n(.*?)^```$", Pattern.MULTILINE | Pattern.DOTALL).matcher(text);
        while (block.find()) {
            all.add(block.group(1));
        }
        return all;
    }

    private void take(String line) {
        Matcher row = SHOWN.matcher(line);
        if (line.isBlank() || line.equals("TurnShifts x = new TurnShifts();")) {
            calls.append(line).append('\n');
        } else if (row.matches()) {
            check(row.group(1), row.group(2));
        } else {
            Check.yes("README.md shows an answer: " + line, false);
        }
    }

    private void check(String call, String answer) {
        Matcher name = Pattern.compile("\\.(\\w+)\\(").matcher(call);
        if (name.find()) {
            shown.add(name.group(1));
        }
        String quoted = call.replace("\\", "\\\\").replace("\"", "\\\"");
        calls.append("rows.add(new String[] {\"").append(quoted).append("\", answer(() -> ").append(call)
            .append("), \"").append(due(answer)).append("\"});\n");
    }

    private static String due(String answer) {
        switch (answer) {
            case "NONE": return "" + TurnShifts.NONE;
            case "HIDDEN": return "" + TurnShifts.HIDDEN;
            case "Long.MIN_VALUE": return "" + Long.MIN_VALUE;
            default: return answer;
        }
    }

    private String program() {
        return "import java.util.List;\nimport java.util.function.Supplier;\npublic final class Shown {\n"
            + "static final int NONE = TurnShifts.NONE;\nstatic final int HIDDEN = TurnShifts.HIDDEN;\n" + methods
            + "static String answer(Supplier<Object> call) {\ntry { return \"\" + call.get(); }\n"
            + "catch (RuntimeException e) { return \"throws \" + e.getClass().getSimpleName(); }\n}\n"
            + "public static void run(List<String[]> rows) {\n" + calls + "}\n}\n";
    }

    private static void hold(Path made) throws IOException, ReflectiveOperationException {
        List<String[]> rows = new ArrayList<>();
        try (URLClassLoader loader = new URLClassLoader(new URL[] {made.toUri().toURL()})) {
            loader.loadClass("Shown").getMethod("run", List.class).invoke(null, rows);
        }
        for (String[] row : rows) {
            Check.yes("README.md: " + row[0] + " answered " + row[1] + ", shown is " + row[2], row[1].equals(row[2]));
        }
    }
}
