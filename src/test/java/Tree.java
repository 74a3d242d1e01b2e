import java.math.BigInteger;
import java.util.ArrayList;
import java.util.Arrays;
import java.util.List;

/**
 * A module read and validated a second time, from the document's words and in another way than the class does it: as a
 * tree, with numbers without a bound, and with a stack of types for each block.
 */
final class Tree {
    static final char I32 = 'i';
    static final char I64 = 'l';
    static final char NONE = '-';
    /** What a value may be that is taken where nothing can be reached. */
    private static final char ANY = '?';

    /** READ is reason 1, VALID is reason 2. */
    static final class Refused extends Exception {
        private static final long serialVersionUID = 1;
        final int reason;

        Refused(int reason) {
            this.reason = reason;
        }
    }

    /** An instruction, with all that stands within it if it is a block. */
    static final class Node {
        int op;
        /** A constant, an index, a label or an offset. */
        long value;
        long alignment;
        char type = NONE;
        List<Node> body;
        /** Null if there is no else. */
        List<Node> other;
        final List<Long> labels = new ArrayList<>();
    }

    static final class Signature {
        String parameters = "";
        char result = NONE;
    }

    static final class Function {
        long type;
        Signature signature;
        String locals = "";
        List<Node> body;

        String variables() {
            return signature.parameters + locals;
        }
    }

    static final class Global {
        char type;
        boolean changes;
        char initialType;
        long initial;
    }

    static final class Export {
        byte[] name;
        int kind;
        long index;
    }

    final List<Signature> signatures = new ArrayList<>();
    final List<Function> functions = new ArrayList<>();
    final List<Global> globals = new ArrayList<>();
    final List<Export> exports = new ArrayList<>();
    boolean hasMemory;
    long pages;
    long most = 65536;

    Tree(byte[] bytes) throws Refused {
        readAll(new Bytes(bytes));
        validateAll();
    }

    // READ

    private static void read(boolean holds) throws Refused {
        if (!holds) {
            throw new Refused(1);
        }
    }

    /** A part of the tape. */
    private static final class Bytes {
        private final byte[] row;
        private int at;

        Bytes(byte[] row) {
            this.row = row;
        }

        boolean isEmpty() {
            return at == row.length;
        }

        int one() throws Refused {
            read(!isEmpty());
            return row[at++] & 255;
        }

        Bytes next(long size) throws Refused {
            read(size <= row.length - at);
            at += (int) size;
            return new Bytes(Arrays.copyOfRange(row, at - (int) size, at));
        }

        Bytes sized() throws Refused {
            return next(number(0xFFFFFFFFL));
        }

        /** The parts of 7 bits, the lowest first, as one number with a sign. */
        private BigInteger parts(int most) throws Refused {
            BigInteger sum = BigInteger.ZERO;
            BigInteger weight = BigInteger.ONE;
            for (int k = 1;; k++) {
                int b = one();
                sum = sum.add(weight.multiply(BigInteger.valueOf(b % 128)));
                weight = weight.shiftLeft(7);
                if (b < 128) {
                    return b < 64 ? sum : sum.subtract(weight);
                }
                read(k < most);
            }
        }

        long number(long most) throws Refused {
            int from = at;
            BigInteger value = parts(5);
            if (value.signum() < 0) {
                value = value.add(BigInteger.ONE.shiftLeft(7 * (at - from)));
            }
            read(value.compareTo(BigInteger.valueOf(most)) <= 0);
            return value.longValueExact();
        }

        long signed(int bits) throws Refused {
            BigInteger value = parts(bits == 32 ? 5 : 10);
            read(value.bitLength() < bits);
            return value.longValueExact();
        }

        char type() throws Refused {
            int b = one();
            read(b == 0x7F || b == 0x7E);
            return b == 0x7F ? I32 : I64;
        }

        long index() throws Refused {
            return number(0x7FFFFFFFL);
        }

        boolean flag() throws Refused {
            int b = one();
            read(b <= 1);
            return b == 1;
        }
    }

    private void readAll(Bytes all) throws Refused {
        for (int b : new int[] {0, 'a', 's', 'm', 1, 0, 0, 0}) {
            read(all.one() == b);
        }
        int highest = 0;
        int codes = 0;
        while (!all.isEmpty()) {
            int id = all.one();
            read(id == 0 || id > highest);
            highest = Math.max(highest, id);
            Bytes part = all.sized();
            if (id == 0) {
                part.sized();
                continue;
            }
            switch (id) {
                case 1 -> readSignatures(part);
                case 3 -> readFunctions(part);
                case 5 -> readMemory(part);
                case 6 -> readGlobals(part);
                case 7 -> readExports(part);
                case 10 -> codes = readCodes(part);
                default -> throw new Refused(1);
            }
            read(part.isEmpty());
        }
        read(codes == functions.size());
    }

    private void readSignatures(Bytes in) throws Refused {
        for (long left = in.number(20); left > 0; left--) {
            Signature s = new Signature();
            read(in.one() == 0x60);
            for (long more = in.number(8); more > 0; more--) {
                s.parameters += in.type();
            }
            if (in.number(1) == 1) {
                s.result = in.type();
            }
            signatures.add(s);
        }
    }

    private void readFunctions(Bytes in) throws Refused {
        for (long left = in.number(30); left > 0; left--) {
            Function f = new Function();
            f.type = in.index();
            functions.add(f);
        }
    }

    private void readMemory(Bytes in) throws Refused {
        if (in.number(1) == 1) {
            hasMemory = true;
            boolean hasMost = in.flag();
            pages = in.number(0xFFFFFFFFL);
            if (hasMost) {
                most = in.number(0xFFFFFFFFL);
            }
        }
    }

    private void readGlobals(Bytes in) throws Refused {
        for (long left = in.number(20); left > 0; left--) {
            Global g = new Global();
            g.type = in.type();
            g.changes = in.flag();
            int op = in.one();
            read(op == 0x41 || op == 0x42);
            g.initialType = op == 0x41 ? I32 : I64;
            g.initial = in.signed(op == 0x41 ? 32 : 64);
            read(in.one() == 0x0B);
            globals.add(g);
        }
    }

    private void readExports(Bytes in) throws Refused {
        for (long left = in.number(40); left > 0; left--) {
            Export e = new Export();
            e.name = in.next(in.number(30)).row;
            e.kind = in.one();
            read(e.kind == 0 || e.kind == 2 || e.kind == 3);
            e.index = in.index();
            exports.add(e);
        }
    }

    private int readCodes(Bytes in) throws Refused {
        int codes = (int) in.number(30);
        read(codes == functions.size());
        for (Function f : functions) {
            Bytes code = in.sized();
            StringBuilder locals = new StringBuilder();
            for (long left = code.number(60); left > 0; left--) {
                long run = code.number(60);
                locals.append(String.valueOf(code.type()).repeat((int) run));
            }
            read(locals.length() <= 60);
            f.locals = locals.toString();
            f.body = new ArrayList<>();
            read(readNodes(code, f.body, 0) == 0x0B && code.isEmpty());
        }
        return codes;
    }

    /** Up to an else or end, which is the answer. */
    private static int readNodes(Bytes in, List<Node> into, int open) throws Refused {
        while (true) {
            int op = in.one();
            if (op == 0x05 || op == 0x0B) {
                return op;
            }
            into.add(readNode(in, op, open));
        }
    }

    private static boolean isOneOf(int op, int... runs) {
        for (int k = 0; k < runs.length; k += 2) {
            if (op >= runs[k] && op <= runs[k + 1]) {
                return true;
            }
        }
        return false;
    }

    private static Node readNode(Bytes in, int op, int open) throws Refused {
        Node node = new Node();
        node.op = op;
        if (isOneOf(op, 0x02, 0x04)) {
            readBlock(in, node, open + 1);
        } else if (op == 0x0E) {
            for (long left = in.number(50) + 1; left > 0; left--) {
                node.labels.add(in.index());
            }
        } else if (isOneOf(op, 0x0C, 0x0D, 0x10, 0x10, 0x20, 0x24)) {
            node.value = in.index();
        } else if (isOneOf(op, 0x28, 0x29, 0x2C, 0x2D, 0x36, 0x37, 0x3A, 0x3A)) {
            node.alignment = in.index();
            node.value = in.number(0xFFFFFFFFL);
        } else if (isOneOf(op, 0x3F, 0x40)) {
            read(in.one() == 0);
        } else if (isOneOf(op, 0x41, 0x42)) {
            node.value = in.signed(op == 0x41 ? 32 : 64);
        } else {
            read(isOneOf(op, 0x00, 0x01, 0x0F, 0x0F, 0x1A, 0x1B, 0x45, 0x5A, 0x67, 0x8A, 0xA7, 0xA7, 0xAC, 0xAD));
        }
        return node;
    }

    private static void readBlock(Bytes in, Node node, int open) throws Refused {
        read(open <= 100);
        int type = in.one();
        read(type == 0x40 || type == 0x7F || type == 0x7E);
        node.type = type == 0x40 ? NONE : type == 0x7F ? I32 : I64;
        node.body = new ArrayList<>();
        if (readNodes(in, node.body, open) == 0x05) {
            read(node.op == 0x04);
            node.other = new ArrayList<>();
            read(readNodes(in, node.other, open) == 0x0B);
        }
    }

    // VALID

    private static void valid(boolean holds) throws Refused {
        if (!holds) {
            throw new Refused(2);
        }
    }

    private void validateAll() throws Refused {
        valid(pages <= 2 && most <= 65536 && pages <= most);
        for (Global g : globals) {
            valid(g.type == g.initialType);
        }
        for (int k = 0; k < exports.size(); k++) {
            Export e = exports.get(k);
            valid(e.index < (e.kind == 0 ? functions.size() : e.kind == 3 ? globals.size() : hasMemory ? 1 : 0));
            for (Export before : exports.subList(0, k)) {
                valid(!Arrays.equals(before.name, e.name));
            }
        }
        for (Function f : functions) {
            valid(f.type < signatures.size());
            f.signature = signatures.get((int) f.type);
        }
        for (Function f : functions) {
            validateBlock(f, f.body, f.signature.result, List.of(f.signature.result));
        }
    }

    /** The types that one block has put on the stack; what lies below belongs to others. */
    private static final class Types {
        private final StringBuilder row = new StringBuilder();
        private boolean open;

        void push(char type) {
            if (type != NONE) {
                row.append(type);
            }
        }

        char pop(char wanted) throws Refused {
            if (wanted == NONE) {
                return NONE;
            }
            if (row.length() == 0) {
                valid(open);
                return wanted;
            }
            char found = row.charAt(row.length() - 1);
            row.setLength(row.length() - 1);
            valid(found == wanted || found == ANY || wanted == ANY);
            return found == ANY ? wanted : found;
        }

        void stop() {
            row.setLength(0);
            open = true;
        }
    }

    /** The labels stand from the outermost to the innermost, with the type that a branch to each takes along. */
    private void validateBlock(Function f, List<Node> body, char result, List<Character> labels) throws Refused {
        Types types = new Types();
        for (Node node : body) {
            validate(f, node, types, labels);
        }
        types.pop(result);
        valid(types.row.length() == 0);
    }

    private static char label(List<Character> labels, long depth) throws Refused {
        valid(depth < labels.size());
        return labels.get(labels.size() - 1 - (int) depth);
    }

    private void validate(Function f, Node node, Types types, List<Character> labels) throws Refused {
        int op = node.op;
        switch (op) {
            case 0x00 -> types.stop();
            case 0x01 -> { }
            case 0x02, 0x03, 0x04 -> validateInner(f, node, types, labels);
            case 0x0C -> {
                types.pop(label(labels, node.value));
                types.stop();
            }
            case 0x0D -> {
                types.pop(I32);
                char type = label(labels, node.value);
                types.pop(type);
                types.push(type);
            }
            case 0x0E -> {
                types.pop(I32);
                char type = label(labels, node.labels.get(node.labels.size() - 1));
                for (long one : node.labels) {
                    valid(label(labels, one) == type);
                }
                types.pop(type);
                types.stop();
            }
            case 0x0F -> {
                types.pop(f.signature.result);
                types.stop();
            }
            case 0x10 -> {
                valid(node.value < functions.size());
                Signature s = functions.get((int) node.value).signature;
                takes(types, new StringBuilder(s.parameters).reverse().toString(), s.result);
            }
            case 0x1A -> types.pop(ANY);
            case 0x1B -> {
                types.pop(I32);
                char first = types.pop(ANY);
                types.push(types.pop(first));
            }
            default -> validatePlain(f, node, types);
        }
    }

    private void validateInner(Function f, Node node, Types types, List<Character> labels) throws Refused {
        if (node.op == 0x04) {
            types.pop(I32);
        }
        List<Character> inner = new ArrayList<>(labels);
        inner.add(node.op == 0x03 ? NONE : node.type);
        validateBlock(f, node.body, node.type, inner);
        if (node.op == 0x04) {
            validateBlock(f, node.other == null ? List.of() : node.other, node.type, inner);
        }
        types.push(node.type);
    }

    /** The types are those that are taken, the top one first. */
    private static void takes(Types types, String taken, char given) throws Refused {
        for (char type : taken.toCharArray()) {
            types.pop(type);
        }
        types.push(given);
    }

    private void validatePlain(Function f, Node node, Types types) throws Refused {
        int op = node.op;
        if (isOneOf(op, 0x20, 0x22)) {
            valid(node.value < f.variables().length());
            char type = f.variables().charAt((int) node.value);
            takes(types, op == 0x20 ? "" : "" + type, op == 0x21 ? NONE : type);
        } else if (isOneOf(op, 0x23, 0x24)) {
            valid(node.value < globals.size());
            Global g = globals.get((int) node.value);
            valid(op == 0x23 || g.changes);
            takes(types, op == 0x23 ? "" : "" + g.type, op == 0x23 ? g.type : NONE);
        } else if (isOneOf(op, 0x28, 0x40)) {
            valid(hasMemory);
            valid(node.alignment <= mostAlignment(op));
            String[] row = effect(op).split(">");
            takes(types, row[0], row[1].charAt(0));
        } else {
            String[] row = effect(op).split(">");
            takes(types, row[0], row[1].charAt(0));
        }
    }

    private static int mostAlignment(int op) {
        return op == 0x29 || op == 0x37 ? 3 : op == 0x28 || op == 0x36 ? 2 : 0;
    }

    /** What is taken, the top one first, and what is given. */
    private static String effect(int op) {
        switch (op) {
            case 0x28: case 0x2C: case 0x2D: case 0x40: case 0x45: case 0x67: case 0x68: case 0x69:
                return "i>i";
            case 0x29: case 0xAC: case 0xAD:
                return "i>l";
            case 0x36: case 0x3A:
                return "ii>-";
            case 0x37:
                return "li>-";
            case 0x3F: case 0x41:
                return ">i";
            case 0x42:
                return ">l";
            case 0x50: case 0xA7:
                return "l>i";
            case 0x79: case 0x7A: case 0x7B:
                return "l>l";
            default:
                return isOneOf(op, 0x46, 0x4F, 0x6A, 0x78) ? "ii>i" : isOneOf(op, 0x51, 0x5A) ? "ll>i" : "ll>l";
        }
    }
}
