import java.io.File;
import java.lang.reflect.Method;
import java.lang.reflect.Modifier;
import java.nio.file.Files;
import java.nio.file.Path;
import java.util.ArrayList;
import java.util.Arrays;
import java.util.List;
import java.util.Set;
import java.util.TreeSet;
import java.util.regex.Matcher;
import java.util.regex.Pattern;

/** What README.md says of the calls is what they answer. Run from the project's folder. */
public final class ReadmeTest {
    private static final Check CHECK = new Check("ReadmeTest");
    private static final String MADE = "Chamberwright house = new Chamberwright();";
    private static final Pattern CALL =
            Pattern.compile("house\\.(\\w+)\\(([-0-9, ]*)\\); +// (throws \\w+|-?\\w+)(: .*)?");
    private static final Pattern ROW = Pattern.compile("\\| `(\\w+)\\(([\\w, ]*)\\)` \\|(.+)\\|(.*)\\|");
    private static final Pattern EXCEPTION = Pattern.compile("`(\\w+Exception)`");
    private static final String NONE = Integer.toString(Chamberwright.NONE);

    private ReadmeTest() {
    }

    public static void main(String[] args) throws Exception {
        String text = Files.readString(Path.of("README.md"));
        List<String[]> calls = callsOf(text);
        theExampleAsTold(calls);
        theExampleShowsEachCall(calls);
        theRefusedCallsChangeNothing(calls);
        theTableOfCalls(text);
        theTableOfTests(text);
        CHECK.endsWell();
    }

    /** The name, the numbers and the answer of each call of the examples; each of their lines is understood. */
    private static List<String[]> callsOf(String text) {
        List<String[]> calls = new ArrayList<>();
        Matcher blocks = Pattern.compile("(?s)```java\n(.*?)```").matcher(text);
        int made = 0;
        while (blocks.find()) {
            for (String line : blocks.group(1).split("\n")) {
                Matcher call = CALL.matcher(line);
                if (call.matches()) {
                    calls.add(new String[] {call.group(1), call.group(2), call.group(3)});
                } else if (line.equals(MADE)) {
                    made++;
                    CHECK.yes("the house is made ahead of the calls", calls.isEmpty());
                } else {
                    CHECK.yes("a line of the example: " + line, line.isEmpty() || line.startsWith("// "));
                }
            }
        }
        CHECK.same("how many houses the examples make", made, 1);
        CHECK.yes("the examples stay under 512 calls", calls.size() < 400);
        return calls;
    }

    private static boolean isRefused(String[] call) {
        return call[2].startsWith("throws ");
    }

    private static void theExampleAsTold(List<String[]> calls) {
        Chamberwright x = new Chamberwright();
        Model model = new Model();
        for (String[] call : calls) {
            int kind = Arrays.asList(Calls.NAMES).indexOf(call[0]);
            String what = call[0] + "(" + call[1] + ")";
            CHECK.yes(what + " is a call of the face", kind >= 0);
            if (kind >= 0) {
                int[] p = numbers(call[1]);
                CHECK.same(what, Calls.program(x, kind, p[0], p[1], p[2]), due(call[2]));
                CHECK.same(what + " of the second house", Calls.model(model, kind, p[0], p[1], p[2]), due(call[2]));
            }
        }
    }

    /** Up to three; those that are not told are 0. */
    private static int[] numbers(String told) {
        int[] numbers = new int[3];
        String[] parts = told.isEmpty() ? new String[0] : told.split(", ");
        for (int at = 0; at < parts.length; at++) {
            numbers[at] = Integer.parseInt(parts[at]);
        }
        return numbers;
    }

    private static String due(String told) {
        return switch (told) {
            case "NONE" -> NONE;
            case "true" -> "1";
            case "false" -> "0";
            default -> told.replace("throws ", "java.lang.");
        };
    }

    private static void theExampleShowsEachCall(List<String[]> calls) {
        Set<String> shown = new TreeSet<>();
        for (String[] call : calls) {
            if (!isRefused(call)) {
                shown.add(call[0]);
            }
            CHECK.same("how many numbers " + call[0] + " takes",
                    call[1].isEmpty() ? 0 : call[1].split(", ").length, face(call[0]).getParameterCount());
            CHECK.yes("the answer of " + call[0] + " is true or false, or is a number, as that of the face",
                    isRefused(call) || call[2].matches("true|false")
                            == (face(call[0]).getReturnType() == boolean.class));
        }
        CHECK.same("the calls of the example", shown.toString(), new TreeSet<>(Arrays.asList(Calls.NAMES)).toString());
    }

    private static Method face(String name) {
        for (Method method : Chamberwright.class.getDeclaredMethods()) {
            if (Modifier.isPublic(method.getModifiers()) && method.getName().equals(name)) {
                return method;
            }
        }
        throw new IllegalStateException("README.md tells of " + name);
    }

    private static void theRefusedCallsChangeNothing(List<String[]> calls) {
        Chamberwright with = new Chamberwright();
        Chamberwright without = new Chamberwright();
        int refused = 0;
        for (String[] call : calls) {
            int kind = Arrays.asList(Calls.NAMES).indexOf(call[0]);
            int[] p = numbers(call[1]);
            Calls.program(with, kind, p[0], p[1], p[2]);
            refused += isRefused(call) ? 1 : 0;
            if (!isRefused(call)) {
                Calls.program(without, kind, p[0], p[1], p[2]);
            }
        }
        CHECK.yes("the examples show refused calls", refused > 0);
        CHECK.same("the house behind them", Snapshot.last(with), Snapshot.last(without));
    }

    /** Each call of the face has a row, in the document's order, with its exceptions in theirs. */
    private static void theTableOfCalls(String text) {
        List<String> rows = new ArrayList<>();
        for (String line : text.split("\n")) {
            Matcher row = ROW.matcher(line);
            if (row.matches()) {
                String name = row.group(1);
                rows.add(name);
                CHECK.same("how many numbers " + name + " takes",
                        row.group(2).isEmpty() ? 0 : row.group(2).split(", ").length, face(name).getParameterCount());
                CHECK.same("what " + name + " throws", exceptionsOf(row.group(4)), exceptionsOf(face(name)));
            }
        }
        CHECK.same("the calls of the table", rows.toString(), Arrays.asList(Calls.NAMES).toString());
    }

    private static String exceptionsOf(String told) {
        List<String> names = new ArrayList<>();
        Matcher exception = EXCEPTION.matcher(told);
        while (exception.find()) {
            names.add(exception.group(1));
        }
        return names.toString();
    }

    private static String exceptionsOf(Method method) {
        List<String> names = new ArrayList<>();
        for (Class<?> type : method.getExceptionTypes()) {
            names.add(type.getSimpleName());
        }
        return names.toString();
    }

    private static void theTableOfTests(String text) {
        CHECK.yes("how the tests are run", text.contains("    bash .ci/run\n"));
        File[] files = new File("src/test/java").listFiles();
        CHECK.yes("there are tests", files != null && files.length > 0);
        for (File file : files) {
            String name = file.getName().replace(".java", "");
            if (name.endsWith("Test")) {
                CHECK.yes("a row for " + name, text.matches("(?s).*\n\\| `[^|]*\\b" + name + "`.*"));
            }
        }
    }
}
