import java.io.IOException;
import java.nio.file.Files;
import java.nio.file.Path;
import java.util.Arrays;
import java.util.HashMap;
import java.util.HashSet;
import java.util.Map;
import java.util.Set;
import java.util.TreeMap;
import java.util.TreeSet;
import java.util.regex.Matcher;
import java.util.regex.Pattern;

/** What of LANGUAGE.md can be seen from the source of the class; behind a check stands the rule's number. */
public final class LanguageTest {
    private static final Path SOURCE = Path.of("src/main/java/TurnShifts.java");
    private static final Set<String> LIBRARY = Set.of("Math.abs", "Math.max", "Math.min", "Math.floorDiv", "Math.floorMod",
        "Long.numberOfLeadingZeros", "Long.compare", "Integer.compare", "Integer.bitCount", "Long.bitCount",
        "System.arraycopy", "Arrays.fill", "Arrays.copyOf");
    private static final String[] FORBIDDEN = {"finally", "synchronized", "assert", "try", "catch", "volatile", "native",
        "transient", "hashCode", "toString", "getMessage", "Thread", "Random", "Object", "package", "protected", "double",
        "float", "var", "yield"};

    private final String text;
    /** The text without comments, and without what stands in quotes. */
    private final String code;
    private final Map<String, Set<String>> calls = new TreeMap<>();

    private LanguageTest(String text) {
        this.text = text;
        StringBuilder bare = new StringBuilder(text);
        Matcher told = Pattern.compile("/\\*.*?\\*/|//[^\\n]*|\"[^\"\\n]*\"|'\\\\?.'", Pattern.DOTALL).matcher(text);
        while (told.find()) {
            for (int at = told.start() + 1; at < told.end() - 1; at++) {
                bare.setCharAt(at, text.charAt(at) == '\n' ? '\n' : ' ');
            }
        }
        code = bare.toString();
    }

    public static void main(String[] args) throws IOException {
        LanguageTest test = new LanguageTest(Files.readString(SOURCE));
        test.words();
        test.library();
        test.exceptions();
        test.classes();
        test.methods();
        test.depth();
        Check.end();
    }

    private int howOften(String pattern) {
        Matcher found = Pattern.compile(pattern, Pattern.MULTILINE).matcher(code);
        int sum = 0;
        while (found.find()) {
            sum++;
        }
        return sum;
    }

    private void words() {
        for (int at = 0; at < text.length(); at++) {
            char sign = text.charAt(at);
            if (sign != '\n' && (sign < 32 || sign > 126)) {
                Check.yes("4: signs of 1 to 127 alone, at " + at, false);
            }
        }
        for (String word : FORBIDDEN) {
            Check.same("6, 10, 13: " + word, howOften("\\b" + word + "\\b"), 0);
        }
        Check.same("2: no lambda, no method reference", howOften("->|::"), 0);
        Check.same("5: no static initialiser", howOften("static\\s*\\{"), 0);
        Check.same("10: texts are not joined by +", howOften("\"\\s*\\+|\\+\\s*\""), 0);
        Check.same("9: no loop without a bound", howOften("while \\(true\\)|for \\(;;"), 0);
        Check.same("4: one import", howOften("^import "), 1);
        Check.same("4: that of the exception", howOften("^import java\\.util\\.NoSuchElementException;$"), 1);
    }

    private void library() {
        Matcher used = Pattern.compile("\\b(Math|Long|Integer|System|Arrays|String|List|Character)\\.(\\w+)\\s*\\(").matcher(code);
        while (used.find()) {
            String name = used.group(1) + "." + used.group(2);
            Check.yes("4: " + name, LIBRARY.contains(name));
        }
        Matcher made = Pattern.compile("\\bnew (\\w+)").matcher(code);
        Set<String> own = declared();
        own.addAll(Arrays.asList("int", "long", "NoSuchElementException"));
        while (made.find()) {
            Check.yes("3, 12: new " + made.group(1), own.contains(made.group(1)));
        }
    }

    private void exceptions() {
        Check.same("6: one throw", howOften("\\bthrow\\b"), 1);
        Check.same("6: of a written text", howOften("\\bthrow new NoSuchElementException\\(\" *\"\\);"), 1);
    }

    private Set<String> declared() {
        Set<String> names = new TreeSet<>();
        Matcher found = Pattern.compile("\\b(?:class|enum|interface|record) (\\w+)").matcher(code);
        while (found.find()) {
            names.add(found.group(1));
        }
        return names;
    }

    private void classes() {
        Check.yes("11: some twelve classes", declared().size() <= 12);
        Check.same("1: one public class", howOften("\\bpublic (final )?(class|enum|interface|record)\\b"), 1);
        Check.same("1: it is final", howOften("^public final class TurnShifts \\{"), 1);
        Check.same("2: classes inside are private, static", howOften("^    private (static final class|enum) "),
            declared().size() - 1);
    }

    /** Short methods, and which calls which (by name: two of one name count as one, so no depth is told too low). */
    private void methods() {
        Matcher head = Pattern.compile(
            "^( +)(?:public |private |static |final )*[\\w\\[\\]]+ ?(\\w*)\\(([^)]*)\\)(?: throws \\w+)? \\{$",
            Pattern.MULTILINE).matcher(code);
        int found = 0;
        while (head.find()) {
            String first = head.group().trim();
            if (first.startsWith("if ") || first.startsWith("for ") || first.startsWith("while ")
                || first.startsWith("switch ") || first.startsWith("}")) {
                continue;
            }
            found++;
            int end = code.indexOf("\n" + head.group(1) + "}", head.end());
            String body = code.substring(head.end(), end);
            Check.yes("11: short: " + first, body.lines().count() <= 60);
            Check.yes("11: at most seven parameters: " + first, head.group(3).split(",").length <= 7);
            Set<String> called = calls.computeIfAbsent(head.group(2), name -> new HashSet<>());
            Matcher call = Pattern.compile("\\b([a-z]\\w*)\\(").matcher(body);
            while (call.find()) {
                called.add(call.group(1));
            }
        }
        Check.yes("all methods were looked at: " + found, found >= 36 + 60);
    }

    private void depth() {
        Map<String, Integer> known = new HashMap<>();
        for (String name : calls.keySet()) {
            if (!name.isEmpty()) {
                int depth = depthOf(name, known, 0);
                Check.yes("8, 11: at most eight deep, no recursion: " + name + " goes " + depth, depth <= 8);
            }
        }
    }

    private int depthOf(String name, Map<String, Integer> known, int above) {
        if (known.containsKey(name)) {
            return known.get(name);
        }
        int deepest = 0;
        for (String called : above > 50 ? Set.<String>of() : calls.getOrDefault(name, Set.of())) {
            deepest = Math.max(deepest, depthOf(called, known, above + 1));
        }
        int depth = above > 50 ? 100 : deepest + 1;
        known.put(name, depth);
        return depth;
    }
}
