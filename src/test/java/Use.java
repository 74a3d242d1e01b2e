import java.nio.charset.StandardCharsets;
import java.util.Arrays;

/** Ways to use a runner that several tests share. */
final class Use {
    private static final byte[] HEAD = Build.hex(Build.HEAD);

    private Use() {
    }

    /** Leaves just these bytes on the tape. */
    static void tape(WaferRunner x, byte[] bytes) {
        x.end(0);
        feed(x, bytes);
    }

    /** Puts them on a tape that is empty. */
    static void feed(WaferRunner x, byte[] bytes) {
        byte[] padded = Arrays.copyOf(bytes, (bytes.length + 19) / 20 * 20);
        for (int at = 0; at < padded.length; at += 20) {
            x.feed(four(padded, at), four(padded, at + 4), four(padded, at + 8), four(padded, at + 12),
                four(padded, at + 16));
        }
        x.end(bytes.length);
    }

    private static int four(byte[] bytes, int at) {
        return (bytes[at] & 255) << 24 | (bytes[at + 1] & 255) << 16 | (bytes[at + 2] & 255) << 8
            | bytes[at + 3] & 255;
    }

    /** Answers the reason, 0 if the bytes are a module; looks on the way at what must stay and what must go. */
    static int load(WaferRunner x, byte[] bytes) {
        tape(x, bytes);
        State before = new State(x);
        Due.same("count(0) before module", x.count(0), bytes.length);
        int functions = -1;
        boolean threw = false;
        try {
            functions = x.module();
        } catch (UnsupportedOperationException e) {
            threw = true;
        }
        int reason = x.count(1);
        Due.isTrue("a reason just if it threw", threw == (reason != 0));
        Due.same("count(0) behind module", x.count(0), 0);
        if (threw) {
            before.stays("a module that is none", x, 0, 1);
        } else {
            Due.same("count(2) behind module", x.count(2), functions);
            before.countStays("a module", x, 5, 6);
            State.beginsWithZeros("a module", x);
        }
        return reason;
    }

    /** Now a new object, now one with a past: all that a test asks for must hold for each of them. */
    static WaferRunner with(byte[] module) {
        WaferRunner x = Past.next();
        Due.same("reason of " + Build.text(module), load(x, module), 0);
        return x;
    }

    static WaferRunner with(Build build) {
        return with(build.bytes());
    }

    static int find(WaferRunner x, String name) {
        tape(x, name.getBytes(StandardCharsets.ISO_8859_1));
        return x.find();
    }

    static long call(WaferRunner x, int f, long... arguments) {
        for (long v : arguments) {
            x.argument(v);
        }
        return x.call(f);
    }

    static void answers(String what, WaferRunner x, long want, long... arguments) {
        Due.same(what + " of " + Arrays.toString(arguments), call(x, 0, arguments), want);
        Due.same(what + ": reason", x.count(1), 0);
    }

    static void ends(String what, WaferRunner x, int reason, long... arguments) {
        Due.thrown(what + " of " + Arrays.toString(arguments), ArithmeticException.class,
            () -> call(x, 0, arguments));
        Due.same(what + ": reason", x.count(1), reason);
        Due.same(what + ": arguments that are left", x.count(6), 0);
    }

    /** Runs function 0 of a module that has just it. */
    static void runs(String what, String type, String code, long want, long... arguments) {
        for (WaferRunner x : Past.allWith(Build.one(type, code))) {
            answers(what, x, want, arguments);
        }
    }

    /** A new object and one that has had other modules, good and bad, must say the same, and say it again. */
    static void read(String what, byte[] module, int reason) {
        WaferRunner fresh = new WaferRunner();
        Due.same("module: " + what, load(fresh, module), reason);
        readAgain("behind a head: " + what, fresh, module, reason);
        WaferRunner used = Past.used();
        Due.same("module behind others: " + what, load(used, module), reason);
        if (reason != 0) {
            Past.goesOn("behind " + what, used);
        }
        readAgain("behind others and a head: " + what, used, module, reason);
    }

    private static void readAgain(String what, WaferRunner x, byte[] module, int reason) {
        Due.same("a head before " + what, load(x, HEAD), 0);
        Due.same("functions of a head", x.count(2), 0);
        Due.same("globals of a head", x.count(3), 0);
        Due.same("pages of a head", x.count(4), 0);
        Due.same("module " + what, load(x, module), reason);
    }
}
