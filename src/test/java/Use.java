import java.nio.charset.StandardCharsets;
import java.util.Arrays;

/** Ways to use a runner that several tests share. */
final class Use {
    /** Has more of everything than most modules. */
    private static final byte[] FULL = new Build().type(Build.NONE_TO_I32).type(Build.NONE_TO_NONE).type(Build.I64_TO_I64)
        .function(1, "01 3C 7E 02 40 00 0B 0B").function(0, "01 09 7F 41 00 02 7F 41 01 0B 6A 0B")
        .function(2, "00 00 0E 02 00 00 00 0B").memory("01 01 02")
        .global("7F 01 41 05 0B").global("7E 01 42 05 0B").global("7F 01 41 05 0B")
        .export("f", 0, 0).export("g", 3, 1).export("m", 2, 0).bytes();
    /** Is not read, and ends within a block. */
    private static final byte[] OPEN = new Build().type(Build.NONE_TO_NONE).function(0, "00 02 40 41 00 04 40").bytes();
    /** Is not valid, and is given up within a block that can't be reached, with values on the stack. */
    private static final byte[] WRONG = new Build().type(Build.I64_TO_I64).function(0, "00 41 01 02 40 00 42 01 45 0B 0B")
        .bytes();

    private Use() {
    }

    /** Leaves just these bytes on the tape. */
    static void tape(WaferRunner x, byte[] bytes) {
        x.end(0);
        byte[] padded = Arrays.copyOf(bytes, (bytes.length + 19) / 20 * 20);
        for (int at = 0; at < padded.length; at += 20) {
            x.feed(four(padded, at), four(padded, at + 4), four(padded, at + 8), four(padded, at + 12),
                four(padded, at + 16));
        }
        x.end(bytes.length);
    }

    private static int four(byte[] bytes, int at) {
        return (bytes[at] & 255) << 24 | (bytes[at + 1] & 255) << 16 | (bytes[at + 2] & 255) << 8
            | bytes[at + 3] & 255;
    }

    /** Answers the reason, 0 if the bytes are a module; looks at what module does on the way. */
    static int load(WaferRunner x, byte[] bytes) {
        tape(x, bytes);
        int functions = x.count(2);
        boolean threw = false;
        try {
            int answer = x.module();
            Due.same("count(2) behind module", x.count(2), answer);
        } catch (UnsupportedOperationException e) {
            threw = true;
            Due.same("count(2) behind a module that threw", x.count(2), functions);
        }
        Due.same("count(0) behind module", x.count(0), 0);
        Due.isTrue("a reason just if it threw", threw == (x.count(1) != 0));
        return x.count(1);
    }

    static WaferRunner with(byte[] module) {
        WaferRunner x = new WaferRunner();
        Due.same("reason of " + Build.text(module), load(x, module), 0);
        return x;
    }

    static WaferRunner with(Build build) {
        return with(build.bytes());
    }

    static int find(WaferRunner x, String name) {
        tape(x, name.getBytes(StandardCharsets.ISO_8859_1));
        return x.find();
    }

    static long call(WaferRunner x, int f, long... arguments) {
        for (long v : arguments) {
            x.argument(v);
        }
        return x.call(f);
    }

    static void answers(String what, WaferRunner x, long want, long... arguments) {
        Due.same(what + " of " + Arrays.toString(arguments), call(x, 0, arguments), want);
        Due.same(what + ": reason", x.count(1), 0);
    }

    static void ends(String what, WaferRunner x, int reason, long... arguments) {
        Due.thrown(what + " of " + Arrays.toString(arguments), ArithmeticException.class,
            () -> call(x, 0, arguments));
        Due.same(what + ": reason", x.count(1), reason);
        Due.same(what + ": arguments that are left", x.count(6), 0);
    }

    /** Runs function 0 of a module that has just it. */
    static void runs(String what, String type, String code, long want, long... arguments) {
        answers(what, with(Build.one(type, code)), want, arguments);
    }

    /** A new object and one that has had other modules, good and bad, must say the same. */
    static void read(String what, byte[] module, int reason) {
        Due.same("module: " + what, load(new WaferRunner(), module), reason);
        WaferRunner used = new WaferRunner();
        Due.same("the full module", load(used, FULL), 0);
        Due.same("the open module", load(used, OPEN), 1);
        Due.same("the full module again", load(used, FULL), 0);
        Due.same("the wrong module", load(used, WRONG), 2);
        Due.same("module behind others: " + what, load(used, module), reason);
    }
}
