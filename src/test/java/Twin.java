import java.util.ArrayList;
import java.util.Arrays;
import java.util.List;

/**
 * The whole class a second time, as plainly as the document can be told: it goes through a Tree, and every call of the
 * face answers what is due. Where it differs from the class, one of the two is wrong.
 */
final class Twin {
    private static final int PAGE = 65536;
    private static final int CALLS_MOST = 100;
    private static final int PLACES_MOST = 12096;
    private static final int STEPS_MOST = 100000;

    /** How a body is left: by its end, by return, or by a branch to the block that lies so far out. */
    private static final int BY_ITS_END = -1;
    private static final int BY_RETURN = Integer.MAX_VALUE;

    /** A run that is ended by one of the reasons 3 to 8. */
    private static final class Ended extends Exception {
        private static final long serialVersionUID = 1;
        private final int reason;

        Ended(int reason) {
            this.reason = reason;
        }
    }

    private byte[] tape = {};
    private final List<Long> arguments = new ArrayList<>();
    private Tree tree;
    private long[] globals;
    private byte[] memory;
    private int latest;
    private int reason;
    private int steps;
    private int open;
    /** Values, parameters and locals of all open calls. */
    private int places;

    /** Makes the bytes its MODULE, by the tape as all do. */
    void bring(byte[] bytes) {
        tape = bytes.clone();
        module();
    }

    int feed(int... five) {
        if (tape.length > 1980) {
            throw new IndexOutOfBoundsException();
        }
        int length = tape.length;
        tape = Arrays.copyOf(tape, length + 20);
        for (int k = 0; k < 20; k++) {
            tape[length + k] = (byte) (five[k / 4] >>> 8 * (3 - k % 4));
        }
        return tape.length;
    }

    int end(int n) {
        if (n < 0 || n > tape.length) {
            throw new IllegalArgumentException();
        }
        tape = Arrays.copyOf(tape, n);
        return n;
    }

    private byte[] takeTape() {
        byte[] taken = tape;
        tape = new byte[0];
        return taken;
    }

    int module() {
        try {
            tree = new Tree(takeTape());
        } catch (Tree.Refused e) {
            reason = e.reason;
            throw new UnsupportedOperationException();
        }
        reason = 0;
        globals = new long[tree.globals.size()];
        for (int g = 0; g < globals.length; g++) {
            globals[g] = tree.globals.get(g).initial;
        }
        memory = new byte[(int) tree.pages * PAGE];
        return tree.functions.size();
    }

    int find() {
        byte[] name = takeTape();
        if (tree != null) {
            for (Tree.Export e : tree.exports) {
                if (e.kind == 0 && Arrays.equals(e.name, name)) {
                    return (int) e.index;
                }
            }
        }
        return -1;
    }

    int argument(long v) {
        if (arguments.size() == 8) {
            throw new IndexOutOfBoundsException();
        }
        arguments.add(v);
        return arguments.size();
    }

    private static void require(int number, int bound) {
        if (number < 0 || number >= bound) {
            throw new IllegalArgumentException();
        }
    }

    private Tree needed() {
        if (tree == null) {
            throw new IllegalStateException();
        }
        return tree;
    }

    long call(int f) {
        require(f, needed().functions.size());
        List<Long> given = new ArrayList<>(arguments);
        arguments.clear();
        Tree.Function function = tree.functions.get(f);
        if (given.size() != function.signature.parameters.length()) {
            throw new IllegalArgumentException();
        }
        steps = 0;
        open = 0;
        places = 0;
        reason = 0;
        try {
            return run(function, given);
        } catch (Ended e) {
            reason = e.reason;
            throw new ArithmeticException();
        }
    }

    long global(int g) {
        require(g, needed().globals.size());
        return globals[g];
    }

    int memory(int i) {
        needed();
        require(i, memory.length);
        return memory[i] & 255;
    }

    /** 0 for one that is not there. */
    int parametersOf(int f) {
        return tree == null || f >= tree.functions.size() ? 0 : tree.functions.get(f).signature.parameters.length();
    }

    /** Where the memory was put to last. */
    int latest() {
        return latest;
    }

    int count(int what) {
        switch (what) {
            case 0: return tape.length;
            case 1: return reason;
            case 2: return tree == null ? -1 : tree.functions.size();
            case 3: return tree == null ? -1 : globals.length;
            case 4: return tree == null ? -1 : memory.length / PAGE;
            case 5: return steps;
            case 6: return arguments.size();
            default: throw new IllegalArgumentException();
        }
    }

    // RUN

    private static void endIf(boolean holds, int reason) throws Ended {
        if (holds) {
            throw new Ended(reason);
        }
    }

    /** Parameters and locals of one call, and its values; an i32 is kept with its sign. */
    private final class Frame {
        private final Tree.Function function;
        private final long[] variables;
        private final List<Long> values = new ArrayList<>();

        Frame(Tree.Function function, List<Long> given) throws Ended {
            this.function = function;
            variables = new long[function.variables().length()];
            endIf(open == CALLS_MOST, 7);
            endIf(places + variables.length > PLACES_MOST, 7);
            open++;
            places += variables.length;
            for (int p = 0; p < given.size(); p++) {
                boolean isInt = function.signature.parameters.charAt(p) == Tree.I32;
                variables[p] = isInt ? given.get(p).intValue() : given.get(p);
            }
        }

        void push(long value) throws Ended {
            endIf(places == PLACES_MOST, 7);
            places++;
            values.add(value);
        }

        long pop() {
            places--;
            return values.remove(values.size() - 1);
        }

        int popInt() {
            return (int) pop();
        }

        /** Only the top one stays, if there is a type for it. */
        void cut(int height, char type) throws Ended {
            long top = type == Tree.NONE ? 0 : pop();
            while (values.size() > height) {
                pop();
            }
            if (type != Tree.NONE) {
                push(top);
            }
        }
    }

    private long run(Tree.Function function, List<Long> given) throws Ended {
        Frame frame = new Frame(function, given);
        perform(frame, function.body);
        char type = function.signature.result;
        frame.cut(0, type);
        long result = type == Tree.NONE ? 0 : frame.pop();
        open--;
        places -= frame.variables.length;
        return result;
    }

    private int perform(Frame frame, List<Tree.Node> body) throws Ended {
        for (Tree.Node node : body) {
            steps++;
            endIf(steps > STEPS_MOST, 8);
            int left = perform(frame, node);
            if (left != BY_ITS_END) {
                return left;
            }
        }
        return BY_ITS_END;
    }

    private int perform(Frame frame, Tree.Node node) throws Ended {
        switch (node.op) {
            case 0x00:
                throw new Ended(3);
            case 0x02:
                return performBlock(frame, node, node.body);
            case 0x03:
                return performLoop(frame, node);
            case 0x04:
                boolean holds = frame.popInt() != 0;
                return performBlock(frame, node, holds ? node.body : node.other == null ? List.of() : node.other);
            case 0x0C:
                return (int) node.value;
            case 0x0D:
                return frame.popInt() != 0 ? (int) node.value : BY_ITS_END;
            case 0x0E:
                long choice = Integer.toUnsignedLong(frame.popInt());
                return node.labels.get((int) Math.min(choice, node.labels.size() - 1)).intValue();
            case 0x0F:
                return BY_RETURN;
            case 0x10:
                call(frame, tree.functions.get((int) node.value));
                return BY_ITS_END;
            default:
                performPlain(frame, node);
                return BY_ITS_END;
        }
    }

    private int performBlock(Frame frame, Tree.Node node, List<Tree.Node> body) throws Ended {
        int height = frame.values.size();
        int left = perform(frame, body);
        if (left == 0) {
            frame.cut(height, node.type);
        }
        return outward(left);
    }

    /** As it looks from one block further out. */
    private static int outward(int left) {
        return left == 0 ? BY_ITS_END : left == BY_RETURN || left == BY_ITS_END ? left : left - 1;
    }

    private int performLoop(Frame frame, Tree.Node node) throws Ended {
        int height = frame.values.size();
        int left = perform(frame, node.body);
        while (left == 0) {
            frame.cut(height, Tree.NONE);
            left = perform(frame, node.body);
        }
        return outward(left);
    }

    private void call(Frame frame, Tree.Function function) throws Ended {
        List<Long> given = new ArrayList<>();
        for (int p = 0; p < function.signature.parameters.length(); p++) {
            given.add(0, frame.pop());
        }
        long result = run(function, given);
        if (function.signature.result != Tree.NONE) {
            frame.push(result);
        }
    }

    private void performPlain(Frame frame, Tree.Node node) throws Ended {
        int at = (int) node.value;
        switch (node.op) {
            case 0x01 -> { }
            case 0x1A -> frame.pop();
            case 0x1B -> {
                boolean first = frame.popInt() != 0;
                long b = frame.pop();
                long a = frame.pop();
                frame.push(first ? a : b);
            }
            case 0x20 -> frame.push(frame.variables[at]);
            case 0x21 -> frame.variables[at] = frame.pop();
            case 0x22 -> {
                frame.variables[at] = frame.pop();
                frame.push(frame.variables[at]);
            }
            case 0x23 -> frame.push(globals[at]);
            case 0x24 -> globals[at] = frame.pop();
            case 0x28, 0x29, 0x2C, 0x2D -> load(frame, node);
            case 0x36, 0x37, 0x3A -> store(frame, node);
            case 0x3F -> frame.push(memory.length / PAGE);
            case 0x40 -> grow(frame);
            case 0x41, 0x42 -> frame.push(node.value);
            case 0xA7 -> frame.push((int) frame.pop());
            case 0xAC -> frame.push(frame.popInt());
            case 0xAD -> frame.push(Integer.toUnsignedLong(frame.popInt()));
            default -> performNumeric(frame, node.op);
        }
    }

    private static int width(int op) {
        return op == 0x29 || op == 0x37 ? 8 : op == 0x28 || op == 0x36 ? 4 : 1;
    }

    private int place(Frame frame, Tree.Node node) throws Ended {
        long address = Integer.toUnsignedLong(frame.popInt()) + node.value;
        endIf(address > memory.length - width(node.op), 6);
        return (int) address;
    }

    private void load(Frame frame, Tree.Node node) throws Ended {
        int at = place(frame, node);
        long value = 0;
        for (int k = 0; k < width(node.op); k++) {
            value += (memory[at + k] & 255L) << 8 * k;
        }
        frame.push(node.op == 0x28 ? (int) value : node.op == 0x2C ? (byte) value : value);
    }

    private void store(Frame frame, Tree.Node node) throws Ended {
        long value = frame.pop();
        int at = place(frame, node);
        latest = at;
        for (int k = 0; k < width(node.op); k++) {
            memory[at + k] = (byte) (value >>> 8 * k);
        }
    }

    private void grow(Frame frame) throws Ended {
        long pages = memory.length / PAGE;
        long wanted = pages + Integer.toUnsignedLong(frame.popInt());
        if (wanted > 2 || wanted > tree.most) {
            frame.push(-1);
        } else {
            memory = Arrays.copyOf(memory, (int) wanted * PAGE);
            frame.push(pages);
        }
    }

    private static void performNumeric(Frame frame, int op) throws Ended {
        boolean takesOne = op == 0x45 || op == 0x50 || op >= 0x67 && op <= 0x69 || op >= 0x79 && op <= 0x7B;
        long b = takesOne ? 0 : frame.pop();
        long a = frame.pop();
        if (op <= 0x4F) {
            frame.push(compare(op, (int) a, (int) b, Integer.compareUnsigned((int) a, (int) b)) ? 1 : 0);
        } else if (op <= 0x5A) {
            frame.push(compare(op - 0x0B, a, b, Long.compareUnsigned(a, b)) ? 1 : 0);
        } else if (op <= 0x78) {
            frame.push(ofInts(op, (int) a, (int) b));
        } else {
            frame.push(ofLongs(op, a, b));
        }
    }

    private static boolean compare(int op, long a, long b, int unsigned) {
        switch (op) {
            case 0x45: return a == 0;
            case 0x46: return a == b;
            case 0x47: return a != b;
            case 0x48: return a < b;
            case 0x49: return unsigned < 0;
            case 0x4A: return a > b;
            case 0x4B: return unsigned > 0;
            case 0x4C: return a <= b;
            case 0x4D: return unsigned <= 0;
            case 0x4E: return a >= b;
            default: return unsigned >= 0;
        }
    }

    private static int ofInts(int op, int a, int b) throws Ended {
        endIf(op >= 0x6D && op <= 0x70 && b == 0, 4);
        endIf(op == 0x6D && a == Integer.MIN_VALUE && b == -1, 5);
        switch (op) {
            case 0x67: return Integer.numberOfLeadingZeros(a);
            case 0x68: return Integer.numberOfTrailingZeros(a);
            case 0x69: return Integer.bitCount(a);
            case 0x6A: return a + b;
            case 0x6B: return a - b;
            case 0x6C: return a * b;
            case 0x6D: return a / b;
            case 0x6E: return Integer.divideUnsigned(a, b);
            case 0x6F: return a % b;
            case 0x70: return Integer.remainderUnsigned(a, b);
            case 0x71: return a & b;
            case 0x72: return a | b;
            case 0x73: return a ^ b;
            case 0x74: return a << b;
            case 0x75: return a >> b;
            case 0x76: return a >>> b;
            case 0x77: return Integer.rotateLeft(a, b);
            default: return Integer.rotateRight(a, b);
        }
    }

    private static long ofLongs(int op, long a, long b) throws Ended {
        endIf(op >= 0x7F && op <= 0x82 && b == 0, 4);
        endIf(op == 0x7F && a == Long.MIN_VALUE && b == -1, 5);
        switch (op) {
            case 0x79: return Long.numberOfLeadingZeros(a);
            case 0x7A: return Long.numberOfTrailingZeros(a);
            case 0x7B: return Long.bitCount(a);
            case 0x7C: return a + b;
            case 0x7D: return a - b;
            case 0x7E: return a * b;
            case 0x7F: return a / b;
            case 0x80: return Long.divideUnsigned(a, b);
            case 0x81: return a % b;
            case 0x82: return Long.remainderUnsigned(a, b);
            case 0x83: return a & b;
            case 0x84: return a | b;
            case 0x85: return a ^ b;
            case 0x86: return a << b;
            case 0x87: return a >> b;
            case 0x88: return a >>> b;
            case 0x89: return Long.rotateLeft(a, (int) b);
            default: return Long.rotateRight(a, (int) b);
        }
    }
}
