import java.nio.charset.StandardCharsets;
import java.util.ArrayList;
import java.util.Arrays;
import java.util.List;

/**
 * The document once more, told by other means: an object that knows a few modules by their bytes, and what their
 * functions do without running them.
 */
final class Model {
    static final int PAGE = 65536;
    private static final int STEPS_MOST = 100000;

    /** What the functions of the modules do; each is exported under its own name. */
    enum Deed {
        ADD(2), PUT(2), TAKE(1), GROW(1), DIVIDE(2), SET(1), ROUND(1), DEEP(1), STOP(0);

        final int parameters;

        Deed(int parameters) {
            this.parameters = parameters;
        }

        String type() {
            switch (this) {
                case ADD:
                    return Build.TWO_I32_TO_I32;
                case PUT:
                    return "60 02 7F 7E 00";
                case DIVIDE:
                    return Build.TWO_I64_TO_I64;
                case SET:
                    return "60 01 7E 00";
                case STOP:
                    return Build.NONE_TO_NONE;
                default:
                    return Build.I32_TO_I32;
            }
        }

        /** The code, in a module where the function has this index. */
        String code(int self) {
            switch (this) {
                case ADD:
                    return "00 20 00 20 01 6A 0B";
                case PUT:
                    return "00 20 00 20 01 37 00 00 0B";
                case TAKE:
                    return "00 20 00 2D 00 00 0B";
                case GROW:
                    return "00 20 00 40 00 0B";
                case DIVIDE:
                    return "00 20 00 20 01 7F 0B";
                case SET:
                    return "00 20 00 24 01 0B";
                case ROUND:
                    return "00 03 40 20 00 41 01 6B 22 00 0D 00 0B 20 00 0B";
                case DEEP:
                    return "00 20 00 04 7F 20 00 41 01 6B 10" + Build.number(self) + "41 01 6A 05 41 00 0B 0B";
                default:
                    return "00 23 00 41 01 6A 24 00 00 0B";
            }
        }
    }

    /** A module, or bytes that are none. */
    static final class Known {
        final byte[] bytes;
        final int reason;
        final Deed[] deeds;
        final long[] globals;
        final int pages;
        final int most;

        Known(byte[] bytes, int reason, Deed[] deeds, long[] globals, int pages, int most) {
            this.bytes = bytes;
            this.reason = reason;
            this.deeds = deeds;
            this.globals = globals;
            this.pages = pages;
            this.most = most;
        }
    }

    private final List<Known> all;
    private byte[] tape = {};
    private final List<Long> arguments = new ArrayList<>();
    private Known module;
    private int reason;
    private int steps;
    private long[] globals;
    private byte[] memory;
    private int pages;

    Model(List<Known> all) {
        this.all = all;
    }

    int feed(int... ints) {
        if (tape.length + 20 > 2000) {
            throw new IndexOutOfBoundsException();
        }
        int at = tape.length;
        tape = Arrays.copyOf(tape, at + 20);
        for (int k = 0; k < 20; k++) {
            tape[at + k] = (byte) (ints[k / 4] >>> 24 - 8 * (k % 4));
        }
        return tape.length;
    }

    int end(int n) {
        if (n < 0 || n > tape.length) {
            throw new IllegalArgumentException();
        }
        tape = Arrays.copyOf(tape, n);
        return n;
    }

    int module() {
        Known found = null;
        for (Known one : all) {
            if (Arrays.equals(one.bytes, tape)) {
                found = one;
            }
        }
        tape = new byte[0];
        reason = found == null ? 1 : found.reason;
        if (reason != 0) {
            throw new UnsupportedOperationException();
        }
        module = found;
        globals = found.globals.clone();
        memory = new byte[2 * PAGE];
        pages = found.pages;
        return found.deeds.length;
    }

    int find() {
        String name = new String(tape, StandardCharsets.ISO_8859_1);
        tape = new byte[0];
        for (int f = 0; module != null && f < module.deeds.length; f++) {
            if (module.deeds[f].name().equals(name)) {
                return f;
            }
        }
        return -1;
    }

    int argument(long v) {
        if (arguments.size() == 8) {
            throw new IndexOutOfBoundsException();
        }
        arguments.add(v);
        return arguments.size();
    }

    /** 0 for one that is not there. */
    int parametersOf(int f) {
        return module != null && f < module.deeds.length ? module.deeds[f].parameters : 0;
    }

    private void require(int number, int bound) {
        if (module == null) {
            throw new IllegalStateException();
        }
        if (number < 0 || number >= bound) {
            throw new IllegalArgumentException();
        }
    }

    long call(int f) {
        require(f, module == null ? 0 : module.deeds.length);
        Long[] given = arguments.toArray(new Long[0]);
        arguments.clear();
        Deed deed = module.deeds[f];
        if (given.length != deed.parameters) {
            throw new IllegalArgumentException();
        }
        reason = 0;
        long answer = perform(deed, given.length > 0 ? given[0] : 0, given.length > 1 ? given[1] : 0);
        if (reason != 0) {
            throw new ArithmeticException();
        }
        return answer;
    }

    private long perform(Deed deed, long a, long b) {
        switch (deed) {
            case ADD:
                steps = 3;
                return (int) (a + b);
            case PUT:
                steps = 3;
                return put(a & 0xFFFFFFFFL, b);
            case TAKE:
                steps = 2;
                reason = (a & 0xFFFFFFFFL) < (long) pages * PAGE ? 0 : 6;
                return reason == 0 ? memory[(int) a] & 255 : 0;
            case GROW:
                steps = 2;
                return grow(a & 0xFFFFFFFFL);
            case DIVIDE:
                steps = 3;
                reason = b == 0 ? 4 : a == Long.MIN_VALUE && b == -1 ? 5 : 0;
                return reason == 0 ? a / b : 0;
            case SET:
                steps = 2;
                globals[1] = a;
                return 0;
            case ROUND:
                return goRound((int) a);
            case DEEP:
                return goDeep((int) a);
            default:
                steps = 5;
                globals[0] = (int) (globals[0] + 1);
                reason = 3;
                return 0;
        }
    }

    private long put(long at, long value) {
        if (at + 8 > (long) pages * PAGE) {
            reason = 6;
            return 0;
        }
        for (int k = 0; k < 8; k++) {
            memory[(int) at + k] = (byte) (value >>> 8 * k);
        }
        return 0;
    }

    private long grow(long more) {
        if (pages + more > Math.min(2, module.most)) {
            return -1;
        }
        pages += (int) more;
        return pages - more;
    }

    /** Once for the loop, five for each time round, and one for the answer. */
    private long goRound(int n) {
        long whole = n <= 0 ? Long.MAX_VALUE : 2 + 5L * n;
        reason = whole > STEPS_MOST ? 8 : 0;
        steps = (int) Math.min(whole, STEPS_MOST + 1);
        return 0;
    }

    private long goDeep(int n) {
        boolean tooDeep = n < 0 || n >= 100;
        reason = tooDeep ? 7 : 0;
        steps = tooDeep ? 100 * 6 : 3 + 8 * n;
        return n;
    }

    long global(int g) {
        require(g, globals == null ? 0 : globals.length);
        return globals[g];
    }

    int memory(int i) {
        require(i, pages * PAGE);
        return memory[i] & 255;
    }

    int count(int what) {
        switch (what) {
            case 0:
                return tape.length;
            case 1:
                return reason;
            case 2:
                return module == null ? -1 : module.deeds.length;
            case 3:
                return module == null ? -1 : globals.length;
            case 4:
                return module == null ? -1 : pages;
            case 5:
                return steps;
            case 6:
                return arguments.size();
            default:
                throw new IllegalArgumentException();
        }
    }
}
