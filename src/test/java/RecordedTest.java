import java.io.IOException;
import java.nio.file.Files;
import java.nio.file.Path;

/** Promises 4 and 7 against what another engine (V8) said of modules that were made at random. */
public final class RecordedTest {
    public static void main(String[] args) throws IOException {
        for (String line : Files.readAllLines(Path.of("src/test/data/verdicts.txt"))) {
            String[] words = line.split(" ");
            Use.read(words[1], Build.hex(words[1]), Integer.parseInt(words[0]));
        }
        for (String line : Files.readAllLines(Path.of("src/test/data/runs.txt"))) {
            String[] words = line.split(" ");
            WaferRunner x = Use.with(Build.hex(words[0]));
            for (int k = 1; k < words.length; k++) {
                runs(x, words[0], words[k]);
            }
        }
        Due.finish();
    }

    /** A call is told as function:argument:argument=answer, or =T and the reason. */
    private static void runs(WaferRunner x, String module, String told) {
        String[] sides = told.split("=");
        String[] parts = sides[0].split(":");
        for (int k = 1; k < parts.length; k++) {
            x.argument(Long.parseLong(parts[k]));
        }
        String got;
        try {
            got = Long.toString(x.call(Integer.parseInt(parts[0])));
        } catch (ArithmeticException e) {
            got = "T" + x.count(1);
        }
        Due.isTrue(module + ": " + told + ", answered " + got, got.equals(sides[1]));
    }
}
