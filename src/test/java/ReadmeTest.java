import java.io.IOException;
import java.lang.reflect.InvocationTargetException;
import java.lang.reflect.Method;
import java.lang.reflect.Modifier;
import java.nio.file.Files;
import java.nio.file.Path;
import java.util.Arrays;
import java.util.HashSet;
import java.util.List;
import java.util.Set;
import java.util.regex.Matcher;
import java.util.regex.Pattern;
import java.util.stream.Stream;
import javax.tools.JavaCompiler;
import javax.tools.ToolProvider;

/** README.md: its example answers as it says there, and it says how to use the class and how to run its tests. */
public final class ReadmeTest {
    private static final Pattern MADE = Pattern.compile("WaferRunner x = new WaferRunner\\(\\);");
    /** A call, and what it answers or throws; what stands behind a colon is for the reader. */
    private static final Pattern CALL =
        Pattern.compile("x\\.(\\w+)\\(([^)]*)\\);\\s*// (?:throws (\\w+)|(-?\\d+))(?::.*)?");

    public static void main(String[] args) throws IOException {
        String readme = Files.readString(Path.of("README.md"));
        List<String> example = exampleIn(readme);
        compiles(example);
        goThrough(example, new WaferRunner());
        goThrough(example, emptied(Past.used()));
        goThrough(example, emptied(Past.tired()));
        namesAll(readme);
        Due.finish();
    }

    private static List<String> exampleIn(String readme) {
        String fence = "```java\n";
        int from = readme.indexOf(fence);
        Due.isTrue("an example", from >= 0);
        Due.same("no example behind it", readme.indexOf(fence, from + 1), -1);
        return Arrays.asList(readme.substring(from + fence.length(), readme.indexOf("```\n", from + fence.length()))
            .split("\n"));
    }

    private static void compiles(List<String> example) throws IOException {
        JavaCompiler compiler = ToolProvider.getSystemJavaCompiler();
        if (compiler == null) {
            System.out.println("java has no compiler here, so the example is gone through without it");
            return;
        }
        Path directory = Files.createTempDirectory("readme");
        Path file = directory.resolve("Example.java");
        Files.writeString(file, "final class Example {\nvoid go() {\n" + String.join("\n", example) + "\n}\n}\n");
        int failed = compiler.run(null, null, null, "-proc:none", "-cp",
            System.getProperty("java.class.path"), "-d", directory.toString(), file.toString());
        Due.same("compiling the example", failed, 0);
        for (String name : new String[] {"Example.class", "Example.java", ""}) {
            Files.deleteIfExists(directory.resolve(name));
        }
    }

    /** Without arguments and bytes on the tape, all that the example asks for is as on a new object. */
    private static WaferRunner emptied(WaferRunner x) {
        Due.thrown("three arguments for none", IllegalArgumentException.class, () -> x.call(0));
        x.end(0);
        return x;
    }

    private static void goThrough(List<String> example, WaferRunner x) {
        Set<String> called = new HashSet<>();
        int made = 0;
        for (String line : example) {
            String plain = line.trim();
            Matcher call = CALL.matcher(plain);
            if (MADE.matcher(plain).matches()) {
                made++;
            } else if (call.matches()) {
                called.add(call.group(1));
                isAsSaid(x, plain, call);
            } else {
                Due.isTrue("a line that is looked at: " + plain, plain.isEmpty() || plain.startsWith("//"));
            }
        }
        Due.same("objects that the example makes", made, 1);
        Due.same("the example uses every call of the face", called.size(), 9);
    }

    private static void isAsSaid(WaferRunner x, String line, Matcher call) {
        String due = call.group(3) != null ? call.group(3) : call.group(4);
        String got = answer(x, call.group(1), call.group(2));
        Due.isTrue("in README.md stands " + line + " but it answered " + got, got.equals(due));
    }

    private static String answer(WaferRunner x, String name, String told) {
        String[] words = told.isBlank() ? new String[0] : told.split(",");
        for (Method method : WaferRunner.class.getMethods()) {
            if (method.getName().equals(name) && method.getParameterCount() == words.length) {
                return invoke(x, method, words);
            }
        }
        return "no such call";
    }

    private static String invoke(WaferRunner x, Method method, String[] words) {
        Object[] numbers = new Object[words.length];
        for (int k = 0; k < words.length; k++) {
            long number = Long.decode(words[k].trim());
            numbers[k] = method.getParameterTypes()[k] == long.class ? (Object) number : (Object) (int) number;
        }
        try {
            return method.invoke(x, numbers).toString();
        } catch (InvocationTargetException e) {
            return e.getCause().getClass().getSimpleName();
        } catch (IllegalAccessException e) {
            return "not public";
        }
    }

    /** Every call of the face, what runs the tests, and every test there is. */
    private static void namesAll(String readme) throws IOException {
        for (Method method : WaferRunner.class.getDeclaredMethods()) {
            if (Modifier.isPublic(method.getModifiers())) {
                Due.isTrue("README.md tells of " + method.getName(), readme.contains("`" + method.getName() + "`"));
            }
        }
        Due.isTrue("README.md tells what runs the tests", readme.contains("\n.ci/run\n"));
        Due.isTrue("it can be run", Files.isExecutable(Path.of(".ci/run")));
        try (Stream<Path> files = Files.list(Path.of("src/test/java"))) {
            for (Path file : (Iterable<Path>) files::iterator) {
                String name = file.getFileName().toString().replace(".java", "");
                if (name.endsWith("Test")) {
                    Due.isTrue("README.md names " + name, readme.contains("`" + name + "`"));
                }
            }
        }
    }
}
