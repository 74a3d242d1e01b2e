import java.io.IOException;
import java.lang.reflect.Constructor;
import java.lang.reflect.Field;
import java.lang.reflect.Method;
import java.lang.reflect.Modifier;
import java.nio.file.Files;
import java.nio.file.Path;
import java.util.Arrays;
import java.util.Set;
import java.util.TreeSet;
import java.util.regex.Pattern;

/** The public face of the document, and rules of LANGUAGE.md that a look at the class can tell. */
public final class FaceTest {
    private static final Set<String> FACE = Set.of(
        "int feed(int, int, int, int, int) IndexOutOfBoundsException",
        "int end(int) IllegalArgumentException",
        "int module() UnsupportedOperationException",
        "int find() ",
        "int argument(long) IndexOutOfBoundsException",
        "long call(int) IllegalArgumentException IllegalStateException ArithmeticException",
        "long global(int) IllegalArgumentException IllegalStateException",
        "int memory(int) IllegalArgumentException IllegalStateException",
        "int count(int) IllegalArgumentException");

    private static final String[] NEVER = {
        "->", "::", "\\bfinally\\b", "\\bsynchronized\\b", "\\bassert\\b", "\\bprotected\\b", "\\bgetMessage\\b",
        "\\bhashCode\\b", "Exact\\(", "\\bSystem\\.(?!arraycopy)", "\\bThread\\b", "\\bstatic \\{", "\\bMath\\.random",
        "\\bnew [A-Z]\\w*Exception\\([^)\"]", "\\bcatch\\b"
    };

    public static void main(String[] args) throws IOException {
        Class<WaferRunner> face = WaferRunner.class;
        Due.isTrue("public", Modifier.isPublic(face.getModifiers()));
        Due.isTrue("final", Modifier.isFinal(face.getModifiers()));
        Set<String> open = new TreeSet<>();
        Set<String> hidden = new TreeSet<>();
        for (Method m : face.getDeclaredMethods()) {
            if (Modifier.isPrivate(m.getModifiers())) {
                hidden.add(m.getName());
            } else {
                open.add(told(m));
            }
        }
        Due.isTrue("the face is " + open, open.equals(FACE));
        for (String method : FACE) {
            Due.isTrue("no private " + method, !hidden.contains(method.replaceAll("^\\w+ (\\w+).*", "$1")));
        }
        Constructor<?>[] makers = face.getDeclaredConstructors();
        Due.same("constructors", makers.length, 1);
        Due.isTrue("the constructor is public", Modifier.isPublic(makers[0].getModifiers()));
        Due.same("its parameters", makers[0].getParameterCount(), 0);
        for (Field f : face.getDeclaredFields()) {
            Due.isTrue("private " + f.getName(), Modifier.isPrivate(f.getModifiers()));
        }
        Due.isTrue("some twelve classes", face.getDeclaredClasses().length <= 12);
        for (Class<?> inside : face.getDeclaredClasses()) {
            Due.isTrue("static " + inside.getName(), Modifier.isStatic(inside.getModifiers()));
            lookInside(inside);
        }
        lookAtSource(Files.readString(Path.of("src/main/java/WaferRunner.java")));
        Due.finish();
    }

    private static String told(Method m) {
        StringBuilder s = new StringBuilder(m.getReturnType() + " " + m.getName() + "(");
        String types = Arrays.toString(m.getParameterTypes());
        s.append(types, 1, types.length() - 1).append(") ");
        for (Class<?> thrown : m.getExceptionTypes()) {
            s.append(thrown.getSimpleName()).append(' ');
        }
        String whole = s.toString();
        return m.getExceptionTypes().length == 0 ? whole : whole.trim();
    }

    private static void lookInside(Class<?> inside) {
        int fields = 0;
        for (Field f : inside.getDeclaredFields()) {
            if (Modifier.isStatic(f.getModifiers())) {
                Due.isTrue("final " + f, Modifier.isFinal(f.getModifiers()));
            } else {
                fields++;
            }
        }
        Due.isTrue("some twenty fields in " + inside.getName(), fields <= 20);
        for (Method m : inside.getDeclaredMethods()) {
            Due.isTrue("at most seven parameters of " + m, m.getParameterCount() <= 7);
        }
    }

    private static void lookAtSource(String source) {
        for (String never : NEVER) {
            Due.isTrue("no " + never, !Pattern.compile(never).matcher(source).find());
        }
        for (String line : source.split("\n")) {
            if (line.startsWith("import ")) {
                Due.isTrue(line, line.matches("import java\\.util\\.(Arrays|ArrayList|List|Iterator);"));
            }
        }
        Due.isTrue("no package", !source.contains("\npackage ") && !source.startsWith("package "));
    }
}
