import java.io.ByteArrayOutputStream;
import java.util.ArrayList;
import java.util.List;
import java.util.Random;

/** Makes modules at random, the same ones for the same seed: whole ones, which are valid, and others with changed bytes. */
final class Maker {
    private static final char I32 = Tree.I32;
    private static final char I64 = Tree.I64;
    private static final char NONE = Tree.NONE;
    private static final int LENGTH_MOST = 2000;
    private static final long[] CONSTANTS = {
        0, 1, 2, 3, 7, 8, 31, 32, 33, 63, 64, 127, 128, 255, 256, 65528, 65535, 65536, 131064, 131071, 131072, 0x7FFFFFFF,
        -1, -2, -8, -63, -64, -65, -128, -0x80000000L, 0x80000000L, 0xFFFFFFFFL, 1L << 32, 1L << 40, Long.MAX_VALUE,
        Long.MIN_VALUE, Long.MIN_VALUE + 1
    };
    private static final String LETTERS = "abz\0\u00FF";

    private final Random random;
    private final List<String> parameters = new ArrayList<>();
    private final List<Character> results = new ArrayList<>();
    private final List<Integer> functionTypes = new ArrayList<>();
    private final List<Character> globals = new ArrayList<>();
    private final List<Boolean> globalsChange = new ArrayList<>();
    private final List<byte[]> codes = new ArrayList<>();
    private boolean hasMemory;
    private ByteArrayOutputStream out;
    /** Of the function that is being made: its parameters and locals, its result and the labels, the outermost first. */
    private String variables;
    private char result;
    private String labels;
    private int budget;

    Maker(long seed) {
        random = new Random(seed);
    }

    /** A module that is valid. */
    byte[] whole() {
        prepare();
        return assemble();
    }

    /** One with a few bytes changed in a code, whose size is told as it is then. */
    byte[] withChangedCode() {
        prepare();
        int f = below(codes.size());
        codes.set(f, changed(codes.get(f)));
        return assemble();
    }

    /** One with a few bytes changed wherever they are. */
    byte[] changed() {
        return changed(whole());
    }

    int below(int bound) {
        return random.nextInt(bound);
    }

    long constant() {
        return below(4) == 0 ? random.nextLong() >> below(64) : CONSTANTS[below(CONSTANTS.length)];
    }

    private boolean chance(int oneOf) {
        return below(oneOf) == 0;
    }

    private byte[] changed(byte[] bytes) {
        List<Byte> row = new ArrayList<>();
        for (byte b : bytes) {
            row.add(b);
        }
        for (int more = 1 + below(3); more > 0 && !row.isEmpty(); more--) {
            int at = below(row.size());
            switch (below(10)) {
                case 0 -> row.remove(at);
                case 1 -> row.add(at, (byte) below(256));
                case 2 -> row.set(at, (byte) below(256));
                case 3 -> row.set(at, (byte) (row.get(at) ^ 1 << below(8)));
                default -> row.set(at, (byte) another(row.get(at) & 255));
            }
        }
        byte[] all = new byte[Math.min(row.size(), LENGTH_MOST)];
        for (int k = 0; k < all.length; k++) {
            all[k] = row.get(k);
        }
        return all;
    }

    /** A byte that may well stand in its place: of the same kind, if it is an instruction. */
    private int another(int b) {
        int[][] kinds = {{0x00, 0x05}, {0x0C, 0x0D}, {0x20, 0x24}, {0x28, 0x29}, {0x2C, 0x2D}, {0x36, 0x37},
            {0x3F, 0x40}, {0x41, 0x42}, {0x45, 0x5A}, {0x67, 0x8A}, {0xAC, 0xAD}};
        for (int[] kind : kinds) {
            if (b >= kind[0] && b <= kind[1]) {
                return kind[0] + below(kind[1] - kind[0] + 1);
            }
        }
        return b ^ 1;
    }

    // What there is in the module

    private char type() {
        return below(3) > 0 ? I32 : I64;
    }

    private String types(int most) {
        StringBuilder s = new StringBuilder();
        for (int left = below(most + 1); left > 0; left--) {
            s.append(type());
        }
        return s.toString();
    }

    private void prepare() {
        parameters.clear();
        results.clear();
        functionTypes.clear();
        globals.clear();
        globalsChange.clear();
        codes.clear();
        for (int left = 1 + below(5); left > 0; left--) {
            parameters.add(types(chance(8) ? 8 : 3));
            results.add(chance(4) ? NONE : type());
        }
        for (int left = 1 + below(5); left > 0; left--) {
            functionTypes.add(below(parameters.size()));
        }
        for (int left = below(5); left > 0; left--) {
            globals.add(type());
            globalsChange.add(below(4) > 0);
        }
        hasMemory = below(5) > 0;
        budget = 1500 / functionTypes.size();
        for (int t : functionTypes) {
            codes.add(code(parameters.get(t), results.get(t)));
        }
    }

    private byte[] assemble() {
        ByteArrayOutputStream whole = new ByteArrayOutputStream();
        whole.writeBytes(new byte[] {0, 'a', 's', 'm', 1, 0, 0, 0});
        custom(whole);
        for (int id : new int[] {1, 3, 5, 6, 7, 10}) {
            out = new ByteArrayOutputStream();
            section(id);
            if (out.size() > 0) {
                byte[] content = out.toByteArray();
                out = whole;
                out.write(id);
                sized(content);
            }
            custom(whole);
        }
        return whole.size() <= LENGTH_MOST ? whole.toByteArray() : new byte[] {0, 'a', 's', 'm', 1, 0, 0, 0};
    }

    private void custom(ByteArrayOutputStream whole) {
        if (chance(12)) {
            int name = below(4);
            int rest = below(4);
            whole.writeBytes(new byte[] {0, (byte) (1 + name + rest), (byte) name});
            for (int k = 0; k < name + rest; k++) {
                whole.write(below(256));
            }
        }
    }

    /** Writes nothing if there is no such section. */
    private void section(int id) {
        switch (id) {
            case 1 -> {
                number(parameters.size());
                for (int t = 0; t < parameters.size(); t++) {
                    out.write(0x60);
                    number(parameters.get(t).length());
                    for (char type : parameters.get(t).toCharArray()) {
                        writeType(type);
                    }
                    number(results.get(t) == NONE ? 0 : 1);
                    if (results.get(t) != NONE) {
                        writeType(results.get(t));
                    }
                }
            }
            case 3 -> {
                number(functionTypes.size());
                functionTypes.forEach(t -> number(t));
            }
            case 5 -> {
                if (hasMemory) {
                    number(1);
                    limits();
                }
            }
            case 6 -> {
                if (!globals.isEmpty() || chance(3)) {
                    number(globals.size());
                    for (int g = 0; g < globals.size(); g++) {
                        writeType(globals.get(g));
                        out.write(globalsChange.get(g) ? 1 : 0);
                        writeConstant(globals.get(g), constant());
                        out.write(0x0B);
                    }
                }
            }
            case 7 -> exports();
            default -> {
                number(codes.size());
                codes.forEach(code -> sized(code));
            }
        }
    }

    private void limits() {
        int first = below(3);
        boolean hasMost = chance(2);
        out.write(hasMost ? 1 : 0);
        number(first);
        if (hasMost) {
            number(chance(3) ? 65536 : first + below(3));
        }
    }

    private void exports() {
        List<String> names = new ArrayList<>();
        for (int k = below(5); k > 0; k--) {
            StringBuilder name = new StringBuilder();
            for (int left = below(4); left > 0; left--) {
                name.append(LETTERS.charAt(below(LETTERS.length())));
            }
            if (!names.contains(name.toString())) {
                names.add(name.toString());
            }
        }
        number(names.size());
        for (String name : names) {
            number(name.length());
            for (char c : name.toCharArray()) {
                out.write(c);
            }
            int kind = hasMemory && chance(4) ? 2 : !globals.isEmpty() && chance(4) ? 3 : 0;
            out.write(kind);
            number(kind == 2 ? 0 : below(kind == 3 ? globals.size() : functionTypes.size()));
        }
    }

    /** Now and then in more bytes than it needs. */
    private void number(long n) {
        int bytes = 1;
        while (bytes < 5 && (n >>> 7 * bytes != 0 || chance(60))) {
            bytes++;
        }
        for (int k = 0; k < bytes; k++) {
            out.write((int) (n >>> 7 * k & 127) | (k < bytes - 1 ? 128 : 0));
        }
    }

    private void signed(long n) {
        long rest = n;
        while (rest < -64 || rest > 63) {
            out.write((int) (rest & 127) | 128);
            rest >>= 7;
        }
        out.write((int) (rest & 127));
    }

    private void sized(byte[] content) {
        number(content.length);
        out.writeBytes(content);
    }

    private void writeType(char type) {
        out.write(type == I32 ? 0x7F : type == I64 ? 0x7E : 0x40);
    }

    private void writeConstant(char type, long value) {
        out.write(type == I32 ? 0x41 : 0x42);
        signed(type == I32 ? (int) value : value);
    }

    // What there is in a code

    private byte[] code(String parametersOfIt, char resultOfIt) {
        String locals = types(4);
        variables = parametersOfIt + locals;
        result = resultOfIt;
        labels = "" + result;
        out = new ByteArrayOutputStream();
        number(locals.length());
        for (char type : locals.toCharArray()) {
            number(1);
            writeType(type);
        }
        statements(4);
        if (result != NONE) {
            value(result, 4);
        }
        end();
        return out.toByteArray();
    }

    private void op(int op) {
        out.write(op);
    }

    private void end() {
        out.write(0x0B);
    }

    private void opWith(int op, int index) {
        op(op);
        number(index);
    }

    private void constant(char type, long value) {
        op(type == I32 ? 0x41 : 0x42);
        signed(type == I32 ? (int) value : value);
    }

    /** The place of one that is of this type, or -1. */
    private int pick(String row, char type) {
        int start = row.isEmpty() ? 0 : below(row.length());
        for (int k = 0; k < row.length(); k++) {
            int at = (start + k) % row.length();
            if (row.charAt(at) == type) {
                return at;
            }
        }
        return -1;
    }

    private int pickFunction(char type) {
        StringBuilder row = new StringBuilder();
        functionTypes.forEach(t -> row.append(results.get(t)));
        return pick(row.toString(), type);
    }

    private int pickGlobal(char type, boolean toChange) {
        StringBuilder row = new StringBuilder();
        for (int g = 0; g < globals.size(); g++) {
            row.append(toChange && !globalsChange.get(g) ? NONE : globals.get(g));
        }
        return pick(row.toString(), type);
    }

    /** How far out the label lies. */
    private int depthOf(int label) {
        return labels.length() - 1 - label;
    }

    private void leaf(char type) {
        int variable = pick(variables, type);
        int global = pickGlobal(type, false);
        int choice = below(5);
        if (choice < 2 && variable >= 0) {
            opWith(0x20, variable);
        } else if (choice == 2 && global >= 0) {
            opWith(0x23, global);
        } else if (choice == 3 && type == I32 && hasMemory) {
            op(0x3F);
            out.write(0);
        } else {
            constant(type, constant());
        }
    }

    private void value(char type, int depth) {
        if (depth <= 0 || out.size() > budget) {
            leaf(type);
            return;
        }
        switch (below(17)) {
            case 0, 1, 2 -> joined(type, depth);
            case 3 -> {
                value(type, depth - 1);
                op((type == I32 ? 0x67 : 0x79) + below(3));
            }
            case 4, 5 -> turned(type, depth);
            case 6 -> load(type, depth);
            case 7 -> {
                value(type, depth - 1);
                value(type, depth - 1);
                value(I32, depth - 1);
                op(0x1B);
            }
            case 8 -> call(pickFunction(type), type, depth);
            case 9 -> block(0x02, type, type, depth);
            case 10 -> block(0x03, type, NONE, depth);
            case 11 -> condition(type, depth);
            case 12 -> tee(type, depth);
            case 13 -> branchWith(type, depth);
            case 14 -> {
                statements(depth - 1);
                value(type, depth - 1);
            }
            case 15 -> stop(type, depth);
            default -> leaf(type);
        }
    }

    private void joined(char type, int depth) {
        int op = below(15);
        if (op == 3 && chance(8)) {
            constant(type, type == I32 ? Integer.MIN_VALUE : Long.MIN_VALUE);
            constant(type, -1);
            op(type == I32 ? 0x6D : 0x7F);
            return;
        }
        value(type, depth - 1);
        if (op >= 3 && op <= 6 && below(8) > 0) {
            constant(type, 1 + below(9));
        } else {
            value(type, depth - 1);
        }
        op((type == I32 ? 0x6A : 0x7C) + op);
    }

    /** A value of another type becomes one of this. */
    private void turned(char type, int depth) {
        if (type == I64) {
            value(I32, depth - 1);
            op(0xAC + below(2));
            return;
        }
        char from = type();
        if (from == I64 && chance(2)) {
            value(I64, depth - 1);
            op(0xA7);
            return;
        }
        int op = below(11);
        value(from, depth - 1);
        if (op > 0) {
            value(from, depth - 1);
        }
        op((from == I32 ? 0x45 : 0x50) + op);
    }

    private void address(int depth) {
        if (chance(3)) {
            value(I32, depth - 1);
        } else {
            constant(I32, below(70000));
        }
    }

    private void place(int mostAlignment) {
        number(below(mostAlignment + 1));
        number(chance(20) ? 0xFFFFFFFFL - below(9) : chance(3) ? 65530 + below(9) : below(9));
    }

    private void load(char type, int depth) {
        if (!hasMemory) {
            leaf(type);
            return;
        }
        if (type == I32 && chance(4)) {
            value(I32, depth - 1);
            op(0x40);
            out.write(0);
            return;
        }
        address(depth);
        int op = type == I64 ? 0x29 : new int[] {0x28, 0x2C, 0x2D}[below(3)];
        op(op);
        place(op == 0x29 ? 3 : op == 0x28 ? 2 : 0);
    }

    private void store(int depth) {
        if (!hasMemory) {
            op(0x01);
            return;
        }
        int op = new int[] {0x36, 0x37, 0x3A}[below(3)];
        address(depth);
        value(op == 0x37 ? I64 : I32, depth - 1);
        op(op);
        place(op == 0x37 ? 3 : op == 0x36 ? 2 : 0);
    }

    private void call(int f, char type, int depth) {
        if (f < 0) {
            if (type != NONE) {
                leaf(type);
            }
            return;
        }
        for (char parameter : parameters.get(functionTypes.get(f)).toCharArray()) {
            value(parameter, depth - 2);
        }
        opWith(0x10, f);
    }

    private void open(int op, char type, char label) {
        op(op);
        writeType(type);
        labels += label;
    }

    private void close() {
        end();
        labels = labels.substring(0, labels.length() - 1);
    }

    /** Statements, and a value if there is a type for it. */
    private void inside(char type, int depth) {
        statements(depth - 1);
        if (type != NONE) {
            value(type, depth - 1);
        }
    }

    private void block(int op, char type, char label, int depth) {
        open(op, type, label);
        inside(type, depth);
        close();
    }

    private void condition(char type, int depth) {
        value(I32, depth - 1);
        open(0x04, type, type);
        inside(type, depth);
        if (type != NONE || chance(2)) {
            out.write(0x05);
            inside(type, depth);
        }
        close();
    }

    private void tee(char type, int depth) {
        int variable = pick(variables, type);
        value(type, depth - 1);
        if (variable >= 0) {
            opWith(0x22, variable);
        }
    }

    private void branchWith(char type, int depth) {
        int label = pick(labels, type);
        value(type, depth - 1);
        if (label >= 0) {
            value(I32, depth - 1);
            opWith(0x0D, depthOf(label));
        }
    }

    /** Behind this nothing can be reached, and a value of any type is there. */
    private void stop(char type, int depth) {
        jump(depth);
        boolean isThere = false;
        for (int left = below(4); left > 0; left--) {
            switch (below(4)) {
                case 0, 1 -> {
                    op((type == I32 ? 0x67 : 0x79) + below(18));
                    isThere = true;
                }
                case 2 -> {
                    // It takes an i32 from the top, and what it gives can be of any type.
                    if (!isThere) {
                        op(0x1B);
                        isThere = true;
                    }
                }
                default -> {
                    op(0x1A);
                    isThere = false;
                }
            }
        }
        if (!isThere && chance(2)) {
            value(type, depth - 1);
        }
    }

    /** Goes away from here for good. */
    private void jump(int depth) {
        int choice = below(8);
        if (choice == 0) {
            op(0x00);
            return;
        }
        if (choice == 1) {
            if (result != NONE) {
                value(result, depth - 1);
            }
            op(0x0F);
            return;
        }
        int label = below(labels.length());
        char type = labels.charAt(label);
        if (type != NONE) {
            value(type, depth - 1);
        }
        if (choice < 5) {
            opWith(0x0C, depthOf(label));
            return;
        }
        value(I32, depth - 1);
        int besides = below(4);
        op(0x0E);
        number(besides);
        for (int k = 0; k <= besides; k++) {
            number(depthOf(pick(labels, type)));
        }
    }

    private void statements(int depth) {
        for (int left = below(4); left > 0; left--) {
            statement(depth);
        }
    }

    private void statement(int depth) {
        if (depth <= 0 || out.size() > budget) {
            op(0x01);
            return;
        }
        char type = type();
        switch (below(15)) {
            case 0 -> op(0x01);
            case 1 -> {
                value(type, depth - 1);
                op(0x1A);
            }
            case 2, 3 -> put(0x21, pick(variables, type), type, depth);
            case 4, 5 -> put(0x24, pickGlobal(type, true), type, depth);
            case 6, 7 -> store(depth);
            case 8 -> block(0x02, NONE, NONE, depth);
            case 9 -> rounds(depth);
            case 10 -> condition(NONE, depth);
            case 11 -> {
                int label = pick(labels, NONE);
                if (label >= 0) {
                    value(I32, depth - 1);
                    opWith(0x0D, depthOf(label));
                }
            }
            case 12 -> call(pickFunction(NONE), NONE, depth);
            case 13 -> {
                if (chance(4)) {
                    jump(depth);
                }
            }
            default -> block(0x03, NONE, NONE, depth);
        }
    }

    private void put(int op, int index, char type, int depth) {
        if (index >= 0) {
            value(type, depth - 1);
            opWith(op, index);
        }
    }

    /** A loop that is gone through a few times, unless what is in it changes its counter. */
    private void rounds(int depth) {
        int counter = pick(variables, I32);
        if (counter < 0) {
            return;
        }
        constant(I32, 1 + below(6));
        opWith(0x21, counter);
        open(0x03, NONE, NONE);
        statements(depth - 1);
        opWith(0x20, counter);
        constant(I32, 1);
        op(0x6B);
        opWith(0x22, counter);
        opWith(0x0D, 0);
        close();
    }
}
