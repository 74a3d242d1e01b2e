import java.io.IOException;
import java.nio.file.Files;
import java.nio.file.Path;
import java.util.ArrayDeque;
import java.util.Deque;
import java.util.Map;
import java.util.Set;
import java.util.TreeMap;
import java.util.regex.Matcher;
import java.util.regex.Pattern;

/** LANGUAGE.md, rules 8 and 11: how deep calls go, that none comes back to itself, and how long methods are. */
public final class RulesTest {
    private static final int DEPTH_MOST = 8;
    private static final int LINES_MOST = 60;
    private static final Pattern HEAD =
        Pattern.compile("( +)(?:private |public |static |final )*[\\w\\[\\]]+(?: \\w+)?\\([^;=]*\\)[^;=]*\\{");

    private static final Map<String, Set<String>> CALLS = new TreeMap<>();
    private static final Map<String, Integer> DEPTHS = new TreeMap<>();

    public static void main(String[] args) throws IOException {
        CALLS.putAll(new ClassFile(WaferRunner.class).calls);
        for (Class<?> inside : WaferRunner.class.getDeclaredClasses()) {
            CALLS.putAll(new ClassFile(inside).calls);
        }
        int deepest = 0;
        for (String method : CALLS.keySet()) {
            int depth = depthOf(method, new ArrayDeque<>());
            deepest = Math.max(deepest, depth);
            Due.isTrue(method + " goes " + depth + " deep", depth <= DEPTH_MOST);
        }
        // So that a mistake in reading the class files does not pass for calls that are not deep.
        Due.isTrue("calls are seen", deepest >= 5 && CALLS.size() > 100);
        lengths(Files.readAllLines(Path.of("src/main/java/WaferRunner.java")));
        Due.finish();
    }

    private static int depthOf(String method, Deque<String> above) {
        Due.isTrue("no call of " + method + " within itself", !above.contains(method));
        if (above.contains(method) || !CALLS.containsKey(method)) {
            return 0;
        }
        if (!DEPTHS.containsKey(method)) {
            above.push(method);
            int below = 0;
            for (String called : CALLS.get(method)) {
                below = Math.max(below, depthOf(called, above));
            }
            above.pop();
            DEPTHS.put(method, 1 + below);
        }
        return DEPTHS.get(method);
    }

    /** A method ends with the brace that stands below its head. */
    private static void lengths(Iterable<String> lines) {
        int seen = 0;
        int number = 0;
        int start = 0;
        String end = null;
        for (String line : lines) {
            number++;
            Matcher head = HEAD.matcher(line);
            if (end == null && head.matches()) {
                end = head.group(1) + "}";
                start = number;
            } else if (line.equals(end)) {
                Due.isTrue("the method of line " + start + " has " + (number - start + 1) + " lines",
                    number - start + 1 <= LINES_MOST);
                seen++;
                end = null;
            }
        }
        Due.isTrue("methods are seen: " + seen, seen > 100);
    }
}
