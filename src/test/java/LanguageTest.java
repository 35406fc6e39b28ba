import java.nio.file.Files;
import java.nio.file.Path;
import java.util.List;
import java.util.Map;
import java.util.Set;
import java.util.TreeMap;
import java.util.TreeSet;
import java.util.regex.Matcher;
import java.util.regex.Pattern;

/** Rules of LANGUAGE.md that can be seen in the text of the class. Run from the project's folder. */
public final class LanguageTest {
    private static final Check CHECK = new Check("LanguageTest");
    /** A method begins at a line that ends with a brace behind a list of parameters. */
    private static final String BEGIN = "^( {4}| {8})(?! )(?!.*\\b(class|if|for|while|switch)\\b).*\\).*\\{$";
    private static final Pattern CALLED = Pattern.compile("\\b(\\w+)\\(");

    private LanguageTest() {
    }

    public static void main(String[] args) throws Exception {
        String text = Files.readString(Path.of("src/main/java/Chamberwright.java"));
        CHECK.yes("signs 1 to 126 alone", text.chars().allMatch(sign -> sign == '\n' || sign >= 32 && sign < 127));
        String code = withoutComments(text);
        String bare = code.replaceAll("\"[^\"]*\"", "\"\"");
        for (String word : List.of("package", "import", "synchronized", "assert", "finally", "try", "catch", "native",
                "volatile", "transient", "instanceof", "System", "Thread", "Runtime", "Random", "Object", "Exact",
                "float", "double", "protected", "this")) {
            CHECK.no("the word " + word, Pattern.compile("\\b" + word + "\\b").matcher(bare).find());
        }
        for (String sign : List.of("->", "::", "...", "@", "static {", "\" +", "+ \"", ".equals(", ".hashCode(")) {
            CHECK.no("the sign " + sign, bare.contains(sign));
        }
        CHECK.same("throws of other kinds", found(code,
                "throw (?!new (IllegalArgument|IllegalState|IndexOutOfBounds)Exception\\(\"[^\"]*\"\\);)"), 0);
        CHECK.same("calls of the library beside Math.abs and the bit counts",
                found(bare, "\\b(Math|Integer|Long|String|StringBuilder|ArrayList|List|Arrays)\\b"
                        + "(?!\\.(abs|bitCount)\\()"), 0);
        CHECK.same("what is made outside a constructor", found(bare, "(?m)^.*\\bnew (?!\\w+Exception).*$")
                - found(bare, "(?m)^\\s+\\w+ = new \\w+(\\(\\)|\\[[A-Z_]+\\]);$"), 0);
        methodsAreShort(code);
        callsStayShallow(bare);
        CHECK.endsWell();
    }

    private static String withoutComments(String text) {
        return text.replaceAll("(?s)/\\*.*?\\*/", "").replaceAll("//[^\n]*", "");
    }

    private static int found(String text, String pattern) {
        Matcher matcher = Pattern.compile(pattern).matcher(text);
        int count = 0;
        while (matcher.find()) {
            count++;
        }
        return count;
    }

    private static void methodsAreShort(String code) {
        String[] lines = code.split("\n");
        for (int at = 0; at < lines.length; at++) {
            if (lines[at].matches(BEGIN)) {
                CHECK.yes("at most 60 lines: " + lines[at].strip(), endOf(lines, at) - at < 60);
            }
        }
    }

    /** It ends at its own indent. */
    private static int endOf(String[] lines, int at) {
        String indent = lines[at].substring(0, lines[at].length() - lines[at].stripLeading().length());
        int end = at;
        while (!lines[end].equals(indent + "}")) {
            end++;
        }
        return end;
    }

    /**
     * Methods of one name count as one, which calls what any of them calls: so no depth is told too small. A call
     * of the method itself is a recursion, and left out.
     */
    private static void callsStayShallow(String code) {
        Map<String, Set<String>> called = new TreeMap<>();
        String[] lines = code.split("\n");
        for (int at = 0; at < lines.length; at++) {
            if (lines[at].matches(BEGIN)) {
                Set<String> inside = called.computeIfAbsent(namesIn(lines[at]).get(0), name -> new TreeSet<>());
                for (int line = at + 1; line < endOf(lines, at); line++) {
                    inside.addAll(namesIn(lines[line]));
                }
            }
        }
        CHECK.yes("the calls are found", called.get("line").contains("lookAnew"));
        for (String name : called.keySet()) {
            CHECK.yes("calls from " + name + " go eight deep at most", depth(called, name, 1) <= 8);
        }
    }

    private static List<String> namesIn(String line) {
        return CALLED.matcher(line).results().map(call -> call.group(1)).toList();
    }

    private static int depth(Map<String, Set<String>> called, String name, int depth) {
        int deepest = depth;
        for (String next : called.get(name)) {
            if (called.containsKey(next) && !next.equals(name) && depth <= 8) {
                deepest = Math.max(deepest, depth(called, next, depth + 1));
            }
        }
        return deepest;
    }
}
