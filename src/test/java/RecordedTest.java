import java.io.IOException;
import java.nio.file.Files;
import java.nio.file.Path;

/**
 * Promises 4, 7, 8 and 10 against what another engine (V8) said of modules that were made at random. For the steps, and
 * for reasons 7 and 8, V8 ran the same modules with instructions put in between that count, and that stop it.
 */
public final class RecordedTest {
    public static void main(String[] args) throws IOException {
        for (String line : Files.readAllLines(Path.of("src/test/data/verdicts.txt"))) {
            String[] words = line.split(" ");
            Use.read(words[1], Build.hex(words[1]), Integer.parseInt(words[0]));
        }
        runsOf("src/test/data/runs.txt");
        runsOf("src/test/data/steps.txt");
        Due.finish();
    }

    private static void runsOf(String file) throws IOException {
        for (String line : Files.readAllLines(Path.of(file))) {
            String[] words = line.split(" ");
            for (WaferRunner x : Past.allWith(Build.hex(words[0]))) {
                for (int k = 1; k < words.length; k++) {
                    runs(x, words[0], words[k]);
                }
            }
        }
    }

    /**
     * A call is told as function:argument:argument=answer, or =T and the reason; where more is told, it is the steps,
     * each global, and the pages.
     */
    private static void runs(WaferRunner x, String module, String told) {
        String[] sides = told.split("=");
        String[] parts = sides[0].split(":");
        for (int k = 1; k < parts.length; k++) {
            x.argument(Long.parseLong(parts[k]));
        }
        StringBuilder got = new StringBuilder();
        try {
            got.append(x.call(Integer.parseInt(parts[0])));
        } catch (ArithmeticException e) {
            got.append("T").append(x.count(1));
        }
        if (sides[1].contains(",")) {
            got.append(",").append(x.count(5));
            for (int g = 0; g < x.count(3); g++) {
                got.append(",").append(x.global(g));
            }
            got.append(",").append(x.count(4));
        }
        Due.isTrue(module + ": " + told + ", answered " + got, got.toString().equals(sides[1]));
    }
}
