import java.io.IOException;
import java.nio.file.Files;
import java.nio.file.Path;
import java.util.Set;
import java.util.regex.Matcher;
import java.util.regex.Pattern;

/** Rule 4 of LANGUAGE.md: only what its list names is called for, "their like" taken as nothing more. */
public final class LibraryTest {
    private static final Set<String> FUNCTIONS = Set.of(
        "compare", "max", "min", "abs", "bitCount", "floorDiv", "floorMod");
    private static final Set<String> EXCEPTIONS = Set.of(
        "IllegalStateException", "IllegalArgumentException", "IndexOutOfBoundsException", "ArithmeticException",
        "UnsupportedOperationException", "NoSuchElementException", "RuntimeException");

    public static void main(String[] args) throws IOException {
        lookAtClass(WaferRunner.class);
        for (Class<?> inside : WaferRunner.class.getDeclaredClasses()) {
            lookAtClass(inside);
        }
        lookAtSource(Files.readString(Path.of("src/main/java/WaferRunner.java")));
        Due.finish();
    }

    /** A class or member as the compiler writes it, such as java/lang/Math.min(II)I. */
    private static boolean isListed(String member) {
        if (member.equals("java/lang/Object.<init>()V")
            || member.matches("java/lang/System\\.arraycopy\\(.*")
            || member.matches("java/util/Arrays\\.(copyOf|copyOfRange|fill)\\(\\[[BCDFIJS].*")) {
            return true;
        }
        Matcher function = Pattern.compile("java/lang/(?:Integer|Long|Math)\\.(\\w+)\\([IJ]*\\)[IJ]").matcher(member);
        if (function.matches()) {
            return FUNCTIONS.contains(function.group(1));
        }
        Matcher made = Pattern.compile("java/(?:lang|util)/(\\w+)\\.<init>\\((?:Ljava/lang/String;)?\\)V").matcher(member);
        return made.matches() && EXCEPTIONS.contains(made.group(1));
    }

    private static void lookAtClass(Class<?> type) throws IOException {
        int seen = 0;
        for (String member : new ClassFile(type).used) {
            if (!member.startsWith("WaferRunner")) {
                Due.isTrue(type.getName() + " calls for " + member, isListed(member));
                seen++;
            }
        }
        // Each class makes its objects, if by nothing else then by the constructor that it is given.
        Due.isTrue("something is seen in " + type.getName(), seen > 0);
    }

    /** The compiler writes a constant's number in its place, so a constant of the library shows just here. */
    private static void lookAtSource(String source) {
        String plain = source.replaceAll("(?s)/\\*.*?\\*/", "").replaceAll("//.*", "").replaceAll("\"[^\"]*\"", "\"\"");
        Matcher used = Pattern.compile("\\b(Integer|Long|Math|Short|Byte|Character|Boolean)\\s*\\.\\s*(\\w+)").matcher(plain);
        int seen = 0;
        while (used.find()) {
            Due.isTrue("the source names " + used.group(), used.group(1).matches("Integer|Long|Math")
                && FUNCTIONS.contains(used.group(2)));
            seen++;
        }
        Due.isTrue("something is seen in the source", seen > 0);
    }
}
