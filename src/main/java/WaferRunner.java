import java.util.Arrays;

/** A reader, validator and machine for small WebAssembly modules. */
public final class WaferRunner {
    private static final int TAPE_MOST = 2000;
    private static final int FEED_BYTES = 20;
    private static final int ARGUMENTS_MOST = 8;
    private static final int PAGE = 65536;

    private static final int NOT_READ = 1;
    private static final int NOT_VALID = 2;

    private static final int I32 = 0x7F;
    private static final int I64 = 0x7E;
    private static final int NO_TYPE = 0x40;

    private final byte[] tape;
    private int tapeLength;
    private final long[] arguments;
    private int argumentCount;
    private final Reader reader;
    private final Validator validator;
    private final Machine machine;
    private Wafer current;
    private Wafer spare;
    private boolean loaded;
    private int reason;

    public WaferRunner() {
        tape = new byte[TAPE_MOST];
        arguments = new long[ARGUMENTS_MOST];
        reader = new Reader();
        validator = new Validator();
        machine = new Machine();
        // Two wafers take turns, so that the old one stays whole while a new one is tried.
        current = new Wafer();
        spare = new Wafer();
    }

    public int feed(int a, int b, int c, int d, int e) throws IndexOutOfBoundsException {
        if (tapeLength + FEED_BYTES > TAPE_MOST) {
            throw new IndexOutOfBoundsException("the tape would be too long");
        }
        putInt(a);
        putInt(b);
        putInt(c);
        putInt(d);
        putInt(e);
        return tapeLength;
    }

    public int end(int n) throws IllegalArgumentException {
        if (n < 0 || n > tapeLength) {
            throw new IllegalArgumentException("not a length that the tape can keep");
        }
        tapeLength = n;
        return n;
    }

    public int module() throws UnsupportedOperationException {
        reason = tryTape();
        tapeLength = 0;
        if (reason != 0) {
            throw new UnsupportedOperationException("not a module that can be read and is valid");
        }
        Wafer old = current;
        current = spare;
        spare = old;
        loaded = true;
        machine.begin(current);
        return current.functionCount;
    }

    public int find() {
        int length = tapeLength;
        tapeLength = 0;
        return loaded ? current.exports.functionNamed(tape, length) : -1;
    }

    public int argument(long v) throws IndexOutOfBoundsException {
        if (argumentCount >= ARGUMENTS_MOST) {
            throw new IndexOutOfBoundsException("too many arguments");
        }
        arguments[argumentCount] = v;
        argumentCount++;
        return argumentCount;
    }

    public long call(int f) throws IllegalArgumentException, IllegalStateException, ArithmeticException {
        requireModule();
        requireRange(f, current.functionCount);
        int given = argumentCount;
        argumentCount = 0;
        if (given != current.parameterCountOf(f)) {
            throw new IllegalArgumentException("another number of arguments");
        }
        reason = machine.run(f, arguments);
        if (reason != 0) {
            throw new ArithmeticException("the run was ended");
        }
        return machine.result(f);
    }

    public long global(int g) throws IllegalArgumentException, IllegalStateException {
        requireModule();
        requireRange(g, current.globalCount);
        return machine.globals[g];
    }

    public int memory(int i) throws IllegalArgumentException, IllegalStateException {
        requireModule();
        requireRange(i, machine.pages * PAGE);
        return machine.bytes[i] & 255;
    }

    public int count(int what) throws IllegalArgumentException {
        switch (what) {
            case 0:
                return tapeLength;
            case 1:
                return reason;
            case 2:
                return loaded ? current.functionCount : -1;
            case 3:
                return loaded ? current.globalCount : -1;
            case 4:
                return loaded ? machine.pages : -1;
            case 5:
                return machine.steps;
            case 6:
                return argumentCount;
            default:
                throw new IllegalArgumentException("no such count");
        }
    }

    private void putInt(int four) {
        for (int shift = 24; shift >= 0; shift -= 8) {
            tape[tapeLength] = (byte) (four >> shift);
            tapeLength++;
        }
    }

    private int tryTape() {
        if (!reader.reads(tape, tapeLength, spare)) {
            return NOT_READ;
        }
        return validator.accepts(spare) ? 0 : NOT_VALID;
    }

    private void requireModule() {
        if (!loaded) {
            throw new IllegalStateException("there is no module");
        }
    }

    private static void requireRange(int number, int bound) {
        if (number < 0 || number >= bound) {
            throw new IllegalArgumentException("a number out of range");
        }
    }

    /** The instructions by name; those of i64 stand in the same order as those of i32. */
    private static final class Op {
        static final int UNREACHABLE = 0x00;
        static final int NOP = 0x01;
        static final int BLOCK = 0x02;
        static final int LOOP = 0x03;
        static final int IF = 0x04;
        static final int ELSE = 0x05;
        static final int END = 0x0B;
        static final int BR = 0x0C;
        static final int BR_IF = 0x0D;
        static final int BR_TABLE = 0x0E;
        static final int RETURN = 0x0F;
        static final int CALL = 0x10;
        static final int DROP = 0x1A;
        static final int SELECT = 0x1B;
        static final int LOCAL_GET = 0x20;
        static final int LOCAL_SET = 0x21;
        static final int LOCAL_TEE = 0x22;
        static final int GLOBAL_GET = 0x23;
        static final int GLOBAL_SET = 0x24;
        static final int I32_LOAD = 0x28;
        static final int I64_LOAD = 0x29;
        static final int I32_LOAD8_S = 0x2C;
        static final int I32_LOAD8_U = 0x2D;
        static final int I32_STORE = 0x36;
        static final int I64_STORE = 0x37;
        static final int I32_STORE8 = 0x3A;
        static final int MEMORY_SIZE = 0x3F;
        static final int MEMORY_GROW = 0x40;
        static final int I32_CONST = 0x41;
        static final int I64_CONST = 0x42;

        static final int EQZ = 0x45;
        static final int EQ = 0x46;
        static final int NE = 0x47;
        static final int LT_S = 0x48;
        static final int LT_U = 0x49;
        static final int GT_S = 0x4A;
        static final int GT_U = 0x4B;
        static final int LE_S = 0x4C;
        static final int LE_U = 0x4D;
        static final int GE_S = 0x4E;
        static final int GE_U = 0x4F;
        static final int I64_EQZ = 0x50;
        static final int I64_GE_U = 0x5A;

        static final int CLZ = 0x67;
        static final int CTZ = 0x68;
        static final int POPCNT = 0x69;
        static final int ADD = 0x6A;
        static final int SUB = 0x6B;
        static final int MUL = 0x6C;
        static final int DIV_S = 0x6D;
        static final int DIV_U = 0x6E;
        static final int REM_S = 0x6F;
        static final int REM_U = 0x70;
        static final int AND = 0x71;
        static final int OR = 0x72;
        static final int XOR = 0x73;
        static final int SHL = 0x74;
        static final int SHR_S = 0x75;
        static final int SHR_U = 0x76;
        static final int ROTL = 0x77;
        static final int ROTR = 0x78;
        static final int I64_CLZ = 0x79;
        static final int I64_ROTR = 0x8A;

        static final int I32_WRAP_I64 = 0xA7;
        static final int I64_EXTEND_I32_S = 0xAC;
        static final int I64_EXTEND_I32_U = 0xAD;

        /** The end of a whole code, kept apart from the end of a block: no byte says it. */
        static final int LEAVE = 0x100;

        /** How far the i64 row stands behind the i32 row. */
        static final int TO_I64_COMPARISON = I64_EQZ - EQZ;
        static final int TO_I64_ARITHMETIC = I64_CLZ - CLZ;

        /** First and last of each run of instructions that may be read. */
        private static final int[] KNOWN = {
            UNREACHABLE, ELSE, END, CALL, DROP, SELECT, LOCAL_GET, GLOBAL_SET,
            I32_LOAD, I64_LOAD, I32_LOAD8_S, I32_LOAD8_U, I32_STORE, I64_STORE,
            I32_STORE8, I32_STORE8, MEMORY_SIZE, I64_CONST, EQZ, I64_GE_U, CLZ, I64_ROTR,
            I32_WRAP_I64, I32_WRAP_I64, I64_EXTEND_I32_S, I64_EXTEND_I32_U
        };

        static boolean isKnown(int op) {
            for (int k = 0; k + 1 < KNOWN.length; k += 2) {
                if (op >= KNOWN[k] && op <= KNOWN[k + 1]) {
                    return true;
                }
            }
            return false;
        }

        static boolean isI64Comparison(int op) {
            return op >= I64_EQZ && op <= I64_GE_U;
        }

        static boolean isI64Arithmetic(int op) {
            return op >= I64_CLZ && op <= I64_ROTR;
        }

        /** The instruction of i32 that stands at the same place in its row. */
        static int asI32(int op) {
            if (isI64Comparison(op)) {
                return op - TO_I64_COMPARISON;
            }
            return isI64Arithmetic(op) ? op - TO_I64_ARITHMETIC : op;
        }

        /** Of comparisons and arithmetic. */
        static boolean takesOne(int op) {
            int plain = asI32(op);
            return plain == EQZ || plain >= CLZ && plain <= POPCNT;
        }

        /** How many bytes of the memory a load or store touches. */
        static int width(int op) {
            if (op == I64_LOAD || op == I64_STORE) {
                return 8;
            }
            return op == I32_LOAD || op == I32_STORE ? 4 : 1;
        }

        static boolean isLoad(int op) {
            return op >= I32_LOAD && op <= I32_LOAD8_U;
        }
    }

    /** The instructions of all functions, one after the other, with what belongs to each. */
    private static final class Code {
        static final int NOWHERE = -1;

        int size;
        final int[] ops;
        /** A constant, an index, a label, an offset, or how many labels a table has besides the last. */
        final long[] values;
        /** A block's type, an alignment, or where a table's labels begin. */
        final int[] extras;
        /** Of a block, and of an else: its end. */
        final int[] ends;
        /** Of an if: its else, or NOWHERE. */
        final int[] elses;
        /** Of a block: the values that lie below its own in the function. */
        final int[] heights;
        /** Of a branch: the block that it goes to, or NOWHERE if it leaves the function. */
        final int[] targets;
        int labelCount;
        final int[] labels;
        final int[] labelTargets;

        Code() {
            ops = new int[TAPE_MOST];
            values = new long[TAPE_MOST];
            extras = new int[TAPE_MOST];
            ends = new int[TAPE_MOST];
            elses = new int[TAPE_MOST];
            heights = new int[TAPE_MOST];
            targets = new int[TAPE_MOST];
            labels = new int[TAPE_MOST];
            labelTargets = new int[TAPE_MOST];
        }

        void clear() {
            size = 0;
            labelCount = 0;
        }

        /** Each instruction took a byte of the tape, so there is a place for it. */
        int add(int op) {
            int at = size;
            ops[at] = op;
            values[at] = 0;
            extras[at] = NO_TYPE;
            ends[at] = NOWHERE;
            elses[at] = NOWHERE;
            heights[at] = 0;
            targets[at] = NOWHERE;
            size++;
            return at;
        }

        void addLabel(int label) {
            labels[labelCount] = label;
            labelTargets[labelCount] = NOWHERE;
            labelCount++;
        }
    }

    /** The exports of a wafer. */
    private static final class Exports {
        static final int MOST = 40;
        static final int NAME_MOST = 30;
        static final int FUNCTION = 0;
        static final int MEMORY = 2;
        static final int GLOBAL = 3;

        int size;
        final int[] kinds;
        final int[] indices;
        final int[] nameLengths;
        final byte[] names;

        Exports() {
            kinds = new int[MOST];
            indices = new int[MOST];
            nameLengths = new int[MOST];
            names = new byte[MOST * NAME_MOST];
        }

        int functionNamed(byte[] name, int length) {
            for (int x = 0; x < size; x++) {
                if (kinds[x] == FUNCTION && isNamed(x, name, 0, length)) {
                    return indices[x];
                }
            }
            return -1;
        }

        boolean haveDifferentNames() {
            for (int x = 0; x < size; x++) {
                for (int y = 0; y < x; y++) {
                    if (isNamed(x, names, y * NAME_MOST, nameLengths[y])) {
                        return false;
                    }
                }
            }
            return true;
        }

        private boolean isNamed(int x, byte[] name, int start, int length) {
            if (nameLengths[x] != length) {
                return false;
            }
            for (int k = 0; k < length; k++) {
                if (names[x * NAME_MOST + k] != name[start + k]) {
                    return false;
                }
            }
            return true;
        }
    }

    /** A module as it was read. */
    private static final class Wafer {
        static final int TYPES_MOST = 20;
        static final int PARAMETERS_MOST = 8;
        static final int FUNCTIONS_MOST = 30;
        static final int LOCALS_MOST = 60;
        static final int GLOBALS_MOST = 20;
        static final int PAGES_BOUND = 65536;

        int typeCount;
        final int[] parameterCounts;
        final int[] parameters;
        final int[] results;
        int functionCount;
        final int[] functionTypes;
        final int[] starts;
        final int[] localCounts;
        final int[] locals;
        boolean hasMemory;
        long pagesAtFirst;
        long pagesMost;
        int globalCount;
        final int[] globalTypes;
        final boolean[] globalsChange;
        final int[] initialTypes;
        final long[] initialValues;
        final Exports exports;
        final Code code;

        Wafer() {
            parameterCounts = new int[TYPES_MOST];
            parameters = new int[TYPES_MOST * PARAMETERS_MOST];
            results = new int[TYPES_MOST];
            functionTypes = new int[FUNCTIONS_MOST];
            starts = new int[FUNCTIONS_MOST];
            localCounts = new int[FUNCTIONS_MOST];
            locals = new int[FUNCTIONS_MOST * LOCALS_MOST];
            globalTypes = new int[GLOBALS_MOST];
            globalsChange = new boolean[GLOBALS_MOST];
            initialTypes = new int[GLOBALS_MOST];
            initialValues = new long[GLOBALS_MOST];
            exports = new Exports();
            code = new Code();
        }

        void clear() {
            typeCount = 0;
            functionCount = 0;
            hasMemory = false;
            pagesAtFirst = 0;
            pagesMost = 0;
            globalCount = 0;
            exports.size = 0;
            code.clear();
        }

        int parameterCountOf(int f) {
            return parameterCounts[functionTypes[f]];
        }

        int parameterTypeOf(int f, int p) {
            return parameters[functionTypes[f] * PARAMETERS_MOST + p];
        }

        int resultOf(int f) {
            return results[functionTypes[f]];
        }

        /** The type of a parameter or local; NO_TYPE if the function has no such one. */
        int variableTypeOf(int f, long index) {
            int parameterCount = parameterCountOf(f);
            if (index < parameterCount) {
                return parameterTypeOf(f, (int) index);
            }
            long local = index - parameterCount;
            return local < localCounts[f] ? locals[f * LOCALS_MOST + (int) local] : NO_TYPE;
        }
    }

    /** Bytes that are taken one after the other; once one is not as it must be, all that follow are 0. */
    private static final class Source {
        private static final int SHORT_BYTES = 5;
        private static final int LONG_BYTES = 10;
        private static final long UNSIGNED_MOST = 0xFFFFFFFFL;
        private static final int INDEX_MOST = 0x7FFFFFFF;

        private byte[] bytes;
        private int at;
        private int limit;
        private boolean failed;

        void open(byte[] row, int length) {
            bytes = row;
            at = 0;
            limit = length;
            failed = false;
        }

        void fail() {
            failed = true;
        }

        boolean hasFailed() {
            return failed;
        }

        boolean hasMore() {
            return !failed && at < limit;
        }

        int octet() {
            if (!hasMore()) {
                failed = true;
                return 0;
            }
            int b = bytes[at] & 255;
            at++;
            return b;
        }

        void require(int wanted) {
            if (octet() != wanted) {
                failed = true;
            }
        }

        int valueType() {
            int type = octet();
            if (type != I32 && type != I64) {
                failed = true;
            }
            return type;
        }

        long unsigned() {
            long value = 0;
            for (int k = 0; k < SHORT_BYTES; k++) {
                int b = octet();
                value |= (long) (b & 127) << 7 * k;
                if (b < 128) {
                    return upTo(value, UNSIGNED_MOST);
                }
            }
            failed = true;
            return 0;
        }

        int atMost(int most) {
            return (int) upTo(unsigned(), most);
        }

        int index() {
            return atMost(INDEX_MOST);
        }

        private long upTo(long value, long most) {
            if (value > most) {
                failed = true;
            }
            return failed ? 0 : value;
        }

        int signedInt() {
            long value = signed(SHORT_BYTES);
            // Five bytes have 35 bits: those above the 32 must all be the sign.
            if (value != (int) value) {
                failed = true;
            }
            return (int) value;
        }

        long signedLong() {
            return signed(LONG_BYTES);
        }

        private long signed(int bytesMost) {
            long value = 0;
            for (int k = 0; k < bytesMost; k++) {
                int b = octet();
                value |= (long) (b & 127) << 7 * k;
                if (b < 128) {
                    return k == LONG_BYTES - 1 ? withLastByte(value, b) : signExtended(value, 7 * k + 7);
                }
            }
            failed = true;
            return 0;
        }

        /** The tenth byte has room for the sign alone. */
        private long withLastByte(long value, int b) {
            if (b != 0 && b != 127) {
                failed = true;
            }
            return value;
        }

        private static long signExtended(long value, int bits) {
            return value << 64 - bits >> 64 - bits;
        }

        /** Ends the source behind the next part, whose size stands before it; answers where it ended. */
        int narrow() {
            int outer = limit;
            long size = unsigned();
            if (size > limit - at) {
                failed = true;
            } else {
                limit = at + (int) size;
            }
            return outer;
        }

        /** The part must have been taken to its last byte. */
        void widen(int outer) {
            if (at != limit) {
                failed = true;
            }
            limit = outer;
        }

        void skipRest() {
            at = limit;
        }

        int left() {
            return limit - at;
        }
    }

    /** Reads a whole module into a wafer. */
    private static final class Reader {
        private static final int[] HEAD = {0x00, 0x61, 0x73, 0x6D, 0x01, 0x00, 0x00, 0x00};
        private static final int FUNCTION_TYPE = 0x60;

        private final Source source;
        private final BodyReader bodyReader;
        private Wafer wafer;
        private int codeCount;

        Reader() {
            source = new Source();
            bodyReader = new BodyReader();
        }

        boolean reads(byte[] row, int length, Wafer empty) {
            source.open(row, length);
            wafer = empty;
            wafer.clear();
            codeCount = 0;
            for (int k = 0; k < HEAD.length; k++) {
                source.require(HEAD[k]);
            }
            readSections();
            return !source.hasFailed() && codeCount == wafer.functionCount;
        }

        private void readSections() {
            int last = 0;
            for (int k = 0; k < TAPE_MOST && source.hasMore(); k++) {
                int id = source.octet();
                if (id != 0) {
                    if (id <= last) {
                        source.fail();
                    }
                    last = id;
                }
                int outer = source.narrow();
                readSection(id);
                source.widen(outer);
            }
        }

        private void readSection(int id) {
            switch (id) {
                case 0:
                    readCustom();
                    break;
                case 1:
                    readTypes();
                    break;
                case 3:
                    readFunctions();
                    break;
                case 5:
                    readMemories();
                    break;
                case 6:
                    readGlobals();
                    break;
                case 7:
                    readExports();
                    break;
                case 10:
                    readCodes();
                    break;
                default:
                    source.fail();
                    break;
            }
        }

        private void readCustom() {
            long nameLength = source.unsigned();
            if (nameLength > source.left()) {
                source.fail();
            }
            source.skipRest();
        }

        private void readTypes() {
            wafer.typeCount = source.atMost(Wafer.TYPES_MOST);
            for (int t = 0; t < wafer.typeCount; t++) {
                source.require(FUNCTION_TYPE);
                wafer.parameterCounts[t] = source.atMost(Wafer.PARAMETERS_MOST);
                for (int p = 0; p < wafer.parameterCounts[t]; p++) {
                    wafer.parameters[t * Wafer.PARAMETERS_MOST + p] = source.valueType();
                }
                wafer.results[t] = source.atMost(1) == 1 ? source.valueType() : NO_TYPE;
            }
        }

        private void readFunctions() {
            wafer.functionCount = source.atMost(Wafer.FUNCTIONS_MOST);
            for (int f = 0; f < wafer.functionCount; f++) {
                wafer.functionTypes[f] = source.index();
            }
        }

        private void readMemories() {
            wafer.hasMemory = source.atMost(1) == 1;
            if (wafer.hasMemory) {
                int flag = source.octet();
                if (flag > 1) {
                    source.fail();
                }
                wafer.pagesAtFirst = source.unsigned();
                wafer.pagesMost = flag == 1 ? source.unsigned() : Wafer.PAGES_BOUND;
            }
        }

        private void readGlobals() {
            wafer.globalCount = source.atMost(Wafer.GLOBALS_MOST);
            for (int g = 0; g < wafer.globalCount; g++) {
                wafer.globalTypes[g] = source.valueType();
                int change = source.octet();
                if (change > 1) {
                    source.fail();
                }
                wafer.globalsChange[g] = change == 1;
                readInitialValue(g);
            }
        }

        private void readInitialValue(int g) {
            int op = source.octet();
            if (op == Op.I32_CONST) {
                wafer.initialTypes[g] = I32;
                wafer.initialValues[g] = source.signedInt();
            } else if (op == Op.I64_CONST) {
                wafer.initialTypes[g] = I64;
                wafer.initialValues[g] = source.signedLong();
            } else {
                source.fail();
            }
            source.require(Op.END);
        }

        private void readExports() {
            Exports exports = wafer.exports;
            exports.size = source.atMost(Exports.MOST);
            for (int x = 0; x < exports.size; x++) {
                exports.nameLengths[x] = source.atMost(Exports.NAME_MOST);
                for (int k = 0; k < exports.nameLengths[x]; k++) {
                    exports.names[x * Exports.NAME_MOST + k] = (byte) source.octet();
                }
                int kind = source.octet();
                if (kind != Exports.FUNCTION && kind != Exports.MEMORY && kind != Exports.GLOBAL) {
                    source.fail();
                }
                exports.kinds[x] = kind;
                exports.indices[x] = source.index();
            }
        }

        private void readCodes() {
            codeCount = source.atMost(Wafer.FUNCTIONS_MOST);
            for (int f = 0; f < codeCount && !source.hasFailed(); f++) {
                int outer = source.narrow();
                bodyReader.read(source, wafer, f);
                source.widen(outer);
            }
        }
    }

    /** Reads the locals and instructions of one function. */
    private static final class BodyReader {
        private static final int RUNS_MOST = 60;
        private static final int OPEN_MOST = 100;
        private static final int LABELS_MOST = 50;

        private final int[] open;
        private int openCount;
        private Source source;
        private Code code;

        BodyReader() {
            open = new int[OPEN_MOST];
        }

        void read(Source from, Wafer wafer, int f) {
            source = from;
            code = wafer.code;
            readLocals(wafer, f);
            wafer.starts[f] = code.size;
            openCount = 0;
            boolean goesOn = true;
            for (int k = 0; k < TAPE_MOST && goesOn && !source.hasFailed(); k++) {
                goesOn = readInstruction();
            }
        }

        private void readLocals(Wafer wafer, int f) {
            int runs = source.atMost(RUNS_MOST);
            int size = 0;
            for (int r = 0; r < runs; r++) {
                int length = source.atMost(Wafer.LOCALS_MOST - size);
                int type = source.valueType();
                for (int k = 0; k < length; k++) {
                    wafer.locals[f * Wafer.LOCALS_MOST + size] = type;
                    size++;
                }
            }
            wafer.localCounts[f] = size;
        }

        /** Answers whether the code goes on behind the instruction. */
        private boolean readInstruction() {
            int op = source.octet();
            if (source.hasFailed() || !Op.isKnown(op)) {
                source.fail();
                return false;
            }
            int at = code.add(op);
            if (op == Op.END) {
                return closeBlock(at);
            }
            if (op == Op.ELSE) {
                turnToElse(at);
            } else if (op >= Op.BLOCK && op <= Op.IF) {
                openBlock(at);
            } else {
                readImmediate(op, at);
            }
            return true;
        }

        private void openBlock(int at) {
            int type = source.octet();
            if (type != NO_TYPE && type != I32 && type != I64 || openCount >= OPEN_MOST) {
                source.fail();
                return;
            }
            code.extras[at] = type;
            open[openCount] = at;
            openCount++;
        }

        private void turnToElse(int at) {
            int opener = openCount > 0 ? open[openCount - 1] : Code.NOWHERE;
            if (opener < 0 || code.ops[opener] != Op.IF || code.elses[opener] >= 0) {
                source.fail();
                return;
            }
            code.elses[opener] = at;
        }

        private boolean closeBlock(int at) {
            if (openCount == 0) {
                code.ops[at] = Op.LEAVE;
                return false;
            }
            openCount--;
            int opener = open[openCount];
            code.ends[opener] = at;
            if (code.elses[opener] >= 0) {
                code.ends[code.elses[opener]] = at;
            }
            return true;
        }

        private void readImmediate(int op, int at) {
            if (op == Op.BR_TABLE) {
                readTable(at);
            } else if (op == Op.BR || op == Op.BR_IF || op == Op.CALL || op >= Op.LOCAL_GET && op <= Op.GLOBAL_SET) {
                code.values[at] = source.index();
            } else if (op >= Op.I32_LOAD && op <= Op.I32_STORE8) {
                code.extras[at] = source.index();
                code.values[at] = source.unsigned();
            } else if (op == Op.MEMORY_SIZE || op == Op.MEMORY_GROW) {
                source.require(0);
            } else if (op == Op.I32_CONST) {
                code.values[at] = source.signedInt();
            } else if (op == Op.I64_CONST) {
                code.values[at] = source.signedLong();
            }
        }

        private void readTable(int at) {
            int besides = source.atMost(LABELS_MOST);
            code.values[at] = besides;
            code.extras[at] = code.labelCount;
            for (int k = 0; k <= besides && source.hasMore(); k++) {
                code.addLabel(source.index());
            }
            if (code.labelCount != code.extras[at] + besides + 1) {
                source.fail();
            }
        }
    }

    /** Says whether a wafer that was read is valid. */
    private static final class Validator {
        static final int PAGES_AT_FIRST_MOST = 2;

        private final BodyValidator bodyValidator;

        Validator() {
            bodyValidator = new BodyValidator();
        }

        boolean accepts(Wafer wafer) {
            return acceptsFunctions(wafer) && acceptsMemory(wafer) && acceptsGlobals(wafer)
                && acceptsExports(wafer) && acceptsBodies(wafer);
        }

        private static boolean acceptsFunctions(Wafer wafer) {
            for (int f = 0; f < wafer.functionCount; f++) {
                if (wafer.functionTypes[f] >= wafer.typeCount) {
                    return false;
                }
            }
            return true;
        }

        private static boolean acceptsMemory(Wafer wafer) {
            return wafer.pagesAtFirst <= PAGES_AT_FIRST_MOST && wafer.pagesMost <= Wafer.PAGES_BOUND
                && wafer.pagesAtFirst <= wafer.pagesMost;
        }

        private static boolean acceptsGlobals(Wafer wafer) {
            for (int g = 0; g < wafer.globalCount; g++) {
                if (wafer.initialTypes[g] != wafer.globalTypes[g]) {
                    return false;
                }
            }
            return true;
        }

        private static boolean acceptsExports(Wafer wafer) {
            Exports exports = wafer.exports;
            for (int x = 0; x < exports.size; x++) {
                if (exports.indices[x] >= howMany(wafer, exports.kinds[x])) {
                    return false;
                }
            }
            return exports.haveDifferentNames();
        }

        private static int howMany(Wafer wafer, int kind) {
            if (kind == Exports.FUNCTION) {
                return wafer.functionCount;
            }
            if (kind == Exports.GLOBAL) {
                return wafer.globalCount;
            }
            return wafer.hasMemory ? 1 : 0;
        }

        private boolean acceptsBodies(Wafer wafer) {
            for (int f = 0; f < wafer.functionCount; f++) {
                if (!bodyValidator.accepts(wafer, f)) {
                    return false;
                }
            }
            return true;
        }
    }

    /** Goes once through a function with the types that lie on the stack, and finds where branches go. */
    private static final class BodyValidator {
        /** Of a value that is taken from the stack where the code can't be reached. */
        private static final int ANY_TYPE = 0;
        private static final int OPEN_MOST = BodyReader.OPEN_MOST + 1;

        private Wafer wafer;
        private Code code;
        private int function;
        private final int[] types;
        private int height;
        /** The open blocks; the function itself, which has no opener, lies lowest. */
        private final int[] openers;
        private final int[] bases;
        private final boolean[] unreachable;
        private int openCount;
        private boolean failed;

        BodyValidator() {
            types = new int[TAPE_MOST];
            openers = new int[OPEN_MOST];
            bases = new int[OPEN_MOST];
            unreachable = new boolean[OPEN_MOST];
        }

        boolean accepts(Wafer whole, int f) {
            wafer = whole;
            code = whole.code;
            function = f;
            height = 0;
            openCount = 0;
            failed = false;
            openBlock(Code.NOWHERE);
            for (int at = wafer.starts[f]; at < code.size && openCount > 0 && !failed; at++) {
                check(code.ops[at], at);
            }
            return !failed;
        }

        private void check(int op, int at) {
            if (op == Op.LEAVE || op <= Op.CALL) {
                checkControl(op, at);
            } else if (op == Op.DROP) {
                popAny();
            } else if (op == Op.SELECT) {
                checkSelect();
            } else if (op <= Op.LOCAL_TEE) {
                checkLocal(op, wafer.variableTypeOf(function, code.values[at]));
            } else if (op <= Op.GLOBAL_SET) {
                checkGlobal(op, code.values[at]);
            } else if (op <= Op.MEMORY_GROW) {
                checkMemory(op, at);
            } else if (op <= Op.I64_CONST) {
                push(op == Op.I32_CONST ? I32 : I64);
            } else {
                checkNumeric(op);
            }
        }

        private void checkControl(int op, int at) {
            switch (op) {
                case Op.UNREACHABLE:
                    becomeUnreachable();
                    break;
                case Op.IF:
                    pop(I32);
                    openBlock(at);
                    break;
                case Op.BLOCK:
                case Op.LOOP:
                    openBlock(at);
                    break;
                case Op.ELSE:
                    checkElse();
                    break;
                case Op.END:
                case Op.LEAVE:
                    closeBlock();
                    break;
                case Op.RETURN:
                    popIfTyped(wafer.resultOf(function));
                    becomeUnreachable();
                    break;
                case Op.CALL:
                    checkCall(code.values[at]);
                    break;
                default:
                    checkBranch(op, at);
                    break;
            }
        }

        private void openBlock(int opener) {
            if (openCount >= OPEN_MOST) {
                failed = true;
                return;
            }
            openers[openCount] = opener;
            bases[openCount] = height;
            unreachable[openCount] = false;
            openCount++;
            if (opener >= 0) {
                code.heights[opener] = height;
            }
        }

        private void checkElse() {
            int top = openCount - 1;
            popIfTyped(blockType(top));
            requireBase();
            unreachable[top] = false;
        }

        private void closeBlock() {
            int top = openCount - 1;
            int opener = openers[top];
            int type = blockType(top);
            popIfTyped(type);
            requireBase();
            // An if without else gives nothing when it is passed over.
            if (type != NO_TYPE && opener >= 0 && code.ops[opener] == Op.IF && code.elses[opener] < 0) {
                failed = true;
            }
            openCount--;
            pushIfTyped(type);
        }

        private void requireBase() {
            if (height != bases[openCount - 1]) {
                failed = true;
            }
        }

        private int blockType(int level) {
            int opener = openers[level];
            return opener < 0 ? wafer.resultOf(function) : code.extras[opener];
        }

        /** What a branch to the block carries: nothing to a loop, which it begins anew. */
        private int labelType(int level) {
            int opener = openers[level];
            return opener >= 0 && code.ops[opener] == Op.LOOP ? NO_TYPE : blockType(level);
        }

        private void checkBranch(int op, int at) {
            if (op == Op.BR_TABLE) {
                checkTable(at);
            } else if (op == Op.BR || op == Op.BR_IF) {
                int level = levelOf(code.values[at]);
                if (level < 0) {
                    failed = true;
                    return;
                }
                code.targets[at] = openers[level];
                checkJump(op, labelType(level));
            }
        }

        private void checkJump(int op, int type) {
            if (op == Op.BR_IF) {
                pop(I32);
                popIfTyped(type);
                pushIfTyped(type);
            } else {
                popIfTyped(type);
                becomeUnreachable();
            }
        }

        /** Below 0 if so many blocks are not open. */
        private int levelOf(long label) {
            return label < openCount ? openCount - 1 - (int) label : -1;
        }

        private void checkTable(int at) {
            int first = code.extras[at];
            int last = first + (int) code.values[at];
            int lastLevel = levelOf(code.labels[last]);
            for (int k = first; k <= last; k++) {
                int level = levelOf(code.labels[k]);
                if (level < 0 || lastLevel < 0 || labelType(level) != labelType(lastLevel)) {
                    failed = true;
                    return;
                }
                code.labelTargets[k] = openers[level];
            }
            pop(I32);
            popIfTyped(labelType(lastLevel));
            becomeUnreachable();
        }

        private void checkCall(long callee) {
            if (callee >= wafer.functionCount) {
                failed = true;
                return;
            }
            int f = (int) callee;
            for (int p = wafer.parameterCountOf(f) - 1; p >= 0; p--) {
                pop(wafer.parameterTypeOf(f, p));
            }
            pushIfTyped(wafer.resultOf(f));
        }

        private void checkSelect() {
            pop(I32);
            int upper = popAny();
            push(pop(upper));
        }

        private void checkLocal(int op, int type) {
            if (type == NO_TYPE) {
                failed = true;
                return;
            }
            if (op != Op.LOCAL_GET) {
                pop(type);
            }
            if (op != Op.LOCAL_SET) {
                push(type);
            }
        }

        private void checkGlobal(int op, long index) {
            if (index >= wafer.globalCount) {
                failed = true;
                return;
            }
            int g = (int) index;
            if (op == Op.GLOBAL_GET) {
                push(wafer.globalTypes[g]);
                return;
            }
            if (!wafer.globalsChange[g]) {
                failed = true;
            }
            pop(wafer.globalTypes[g]);
        }

        private void checkMemory(int op, int at) {
            if (!wafer.hasMemory) {
                failed = true;
            }
            if (op == Op.MEMORY_SIZE) {
                push(I32);
            } else if (op == Op.MEMORY_GROW) {
                pop(I32);
                push(I32);
            } else {
                checkAccess(op, code.extras[at]);
            }
        }

        private void checkAccess(int op, int alignment) {
            int width = Op.width(op);
            // The alignment is a power of two; beyond 3 it is greater than any width.
            if (alignment > 3 || 1 << alignment > width) {
                failed = true;
            }
            int type = width == 8 ? I64 : I32;
            if (Op.isLoad(op)) {
                pop(I32);
                push(type);
            } else {
                pop(type);
                pop(I32);
            }
        }

        private void checkNumeric(int op) {
            boolean compares = op <= Op.I64_GE_U;
            boolean takesI64 = op == Op.I32_WRAP_I64 || Op.isI64Comparison(op) || Op.isI64Arithmetic(op);
            boolean givesI64 = op >= Op.I64_EXTEND_I32_S || Op.isI64Arithmetic(op);
            int taken = takesI64 ? I64 : I32;
            pop(taken);
            if (op <= Op.I64_ROTR && !Op.takesOne(op)) {
                pop(taken);
            }
            push(givesI64 && !compares ? I64 : I32);
        }

        private void becomeUnreachable() {
            height = bases[openCount - 1];
            unreachable[openCount - 1] = true;
        }

        private void pushIfTyped(int type) {
            if (type != NO_TYPE) {
                push(type);
            }
        }

        private void push(int type) {
            if (height >= types.length) {
                failed = true;
                return;
            }
            types[height] = type;
            height++;
        }

        private void popIfTyped(int type) {
            if (type != NO_TYPE) {
                pop(type);
            }
        }

        /** Takes a value of that type, and answers the type, as far as either is known. */
        private int pop(int wanted) {
            int found = popAny();
            if (found == ANY_TYPE) {
                return wanted;
            }
            if (wanted != ANY_TYPE && wanted != found) {
                failed = true;
            }
            return found;
        }

        private int popAny() {
            if (height > bases[openCount - 1]) {
                height--;
                return types[height];
            }
            if (!unreachable[openCount - 1]) {
                failed = true;
            }
            return ANY_TYPE;
        }
    }

    /** Runs the functions of a wafer that is valid. */
    private static final class Machine {
        private static final int UNREACHABLE = 3;
        private static final int OUTSIDE_MEMORY = 6;
        private static final int STACK_FULL = 7;
        private static final int TOO_MANY_STEPS = 8;

        private static final int PAGES_MOST = 2;
        private static final int STACK_MOST = 12096;
        private static final int CALLS_MOST = 100;
        private static final int STEPS_MOST = 100000;
        /** Else and end are no steps, but none is passed more than once for a block or call that was one. */
        private static final int TURNS_MOST = 1000000;
        private static final long LOW_32 = 0xFFFFFFFFL;

        final byte[] bytes;
        int pages;
        final long[] globals;
        int steps;
        private Wafer wafer;
        private Code code;
        private int reason;
        private int next;
        /** Parameters, locals and values of all open calls; an i32 lies there with its sign in all 64 bits. */
        private final long[] stack;
        private int height;
        private final int[] functions;
        private final int[] bases;
        private final int[] returns;
        private int depth;
        /** Where the parameters, and where the values of the innermost call begin. */
        private int variables;
        private int values;

        Machine() {
            bytes = new byte[PAGES_MOST * PAGE];
            globals = new long[Wafer.GLOBALS_MOST];
            stack = new long[STACK_MOST];
            functions = new int[CALLS_MOST];
            bases = new int[CALLS_MOST];
            returns = new int[CALLS_MOST];
        }

        void begin(Wafer whole) {
            if (pages > 0) {
                Arrays.fill(bytes, (byte) 0);
            }
            wafer = whole;
            code = whole.code;
            pages = (int) whole.pagesAtFirst;
            for (int g = 0; g < whole.globalCount; g++) {
                globals[g] = whole.initialValues[g];
            }
        }

        /** Answers the reason why the run was ended, 0 if it came to its end. */
        int run(int f, long[] arguments) {
            reason = 0;
            steps = 0;
            height = 0;
            depth = 0;
            for (int p = 0; p < wafer.parameterCountOf(f); p++) {
                push(wafer.parameterTypeOf(f, p) == I32 ? (int) arguments[p] : arguments[p]);
            }
            enter(f);
            for (int turn = 0; turn < TURNS_MOST && depth > 0 && reason == 0; turn++) {
                takeTurn();
            }
            return reason;
        }

        long result(int f) {
            return wafer.resultOf(f) == NO_TYPE ? 0 : stack[0];
        }

        private void takeTurn() {
            int at = next;
            int op = code.ops[at];
            next++;
            if (op == Op.END) {
                return;
            }
            if (op == Op.ELSE) {
                next = code.ends[at] + 1;
            } else if (op == Op.LEAVE) {
                leave();
            } else {
                steps++;
                if (steps > STEPS_MOST) {
                    reason = TOO_MANY_STEPS;
                } else {
                    perform(op, at);
                }
            }
        }

        private void perform(int op, int at) {
            if (op <= Op.CALL) {
                performControl(op, at);
            } else if (op <= Op.GLOBAL_SET) {
                performVariable(op, (int) code.values[at]);
            } else if (op <= Op.MEMORY_GROW) {
                performMemory(op, at);
            } else if (op <= Op.I64_CONST) {
                push(code.values[at]);
            } else if (op <= Op.I64_GE_U) {
                performComparison(op);
            } else if (op <= Op.I64_ROTR) {
                performArithmetic(op);
            } else {
                performConversion(op);
            }
        }

        private void performControl(int op, int at) {
            switch (op) {
                case Op.UNREACHABLE:
                    reason = UNREACHABLE;
                    break;
                case Op.IF:
                    if (pop() == 0) {
                        next = (code.elses[at] >= 0 ? code.elses[at] : code.ends[at]) + 1;
                    }
                    break;
                case Op.BR:
                    branch(code.targets[at]);
                    break;
                case Op.BR_IF:
                    if (pop() != 0) {
                        branch(code.targets[at]);
                    }
                    break;
                case Op.BR_TABLE:
                    long choice = pop() & LOW_32;
                    branch(code.labelTargets[code.extras[at] + (int) Math.min(choice, code.values[at])]);
                    break;
                case Op.RETURN:
                    leave();
                    break;
                case Op.CALL:
                    enter((int) code.values[at]);
                    break;
                default:
                    break;
            }
        }

        private void branch(int target) {
            if (target < 0) {
                leave();
            } else if (code.ops[target] == Op.LOOP) {
                height = values + code.heights[target];
                next = target + 1;
            } else {
                unwind(values + code.heights[target], code.extras[target]);
                next = code.ends[target] + 1;
            }
        }

        /** Takes all from there on off the stack, but for a value on top if there is a type for it. */
        private void unwind(int to, int type) {
            long top = type == NO_TYPE ? 0 : pop();
            height = to;
            if (type != NO_TYPE) {
                push(top);
            }
        }

        private void enter(int f) {
            int localCount = wafer.localCounts[f];
            if (depth >= CALLS_MOST || height + localCount > STACK_MOST) {
                reason = STACK_FULL;
                return;
            }
            functions[depth] = f;
            bases[depth] = height - wafer.parameterCountOf(f);
            returns[depth] = next;
            depth++;
            for (int k = 0; k < localCount; k++) {
                push(0);
            }
            variables = bases[depth - 1];
            values = height;
            next = wafer.starts[f];
        }

        private void leave() {
            depth--;
            unwind(variables, wafer.resultOf(functions[depth]));
            next = returns[depth];
            if (depth > 0) {
                int f = functions[depth - 1];
                variables = bases[depth - 1];
                values = variables + wafer.parameterCountOf(f) + wafer.localCounts[f];
            }
        }

        private void performVariable(int op, int index) {
            switch (op) {
                case Op.DROP:
                    pop();
                    break;
                case Op.SELECT:
                    select();
                    break;
                case Op.LOCAL_GET:
                    push(stack[variables + index]);
                    break;
                case Op.LOCAL_SET:
                    stack[variables + index] = pop();
                    break;
                case Op.LOCAL_TEE:
                    stack[variables + index] = stack[height - 1];
                    break;
                case Op.GLOBAL_GET:
                    push(globals[index]);
                    break;
                default:
                    globals[index] = pop();
                    break;
            }
        }

        private void select() {
            long choice = pop();
            long second = pop();
            long first = pop();
            push(choice != 0 ? first : second);
        }

        private void performMemory(int op, int at) {
            if (op == Op.MEMORY_SIZE) {
                push(pages);
            } else if (op == Op.MEMORY_GROW) {
                grow(pop() & LOW_32);
            } else if (Op.isLoad(op)) {
                load(op, (pop() & LOW_32) + code.values[at]);
            } else {
                long value = pop();
                store(op, (pop() & LOW_32) + code.values[at], value);
            }
        }

        private void grow(long more) {
            if (pages + more > Math.min(wafer.pagesMost, PAGES_MOST)) {
                push(-1);
                return;
            }
            push(pages);
            pages += (int) more;
        }

        private boolean isInside(long address, int width) {
            if (address + width > (long) pages * PAGE) {
                reason = OUTSIDE_MEMORY;
                return false;
            }
            return true;
        }

        private void load(int op, long address) {
            int width = Op.width(op);
            if (!isInside(address, width)) {
                return;
            }
            long value = 0;
            for (int k = width - 1; k >= 0; k--) {
                value = value << 8 | bytes[(int) address + k] & 255;
            }
            if (op == Op.I32_LOAD) {
                push((int) value);
            } else {
                push(op == Op.I32_LOAD8_S ? (byte) value : value);
            }
        }

        private void store(int op, long address, long value) {
            int width = Op.width(op);
            if (!isInside(address, width)) {
                return;
            }
            for (int k = 0; k < width; k++) {
                bytes[(int) address + k] = (byte) (value >> 8 * k);
            }
        }

        private void performComparison(int op) {
            long right = Op.takesOne(op) ? 0 : pop();
            long left = pop();
            push(Arithmetic.compares(Op.asI32(op), left, right) ? 1 : 0);
        }

        private void performArithmetic(int op) {
            boolean isLong = Op.isI64Arithmetic(op);
            int plain = Op.asI32(op);
            if (Op.takesOne(op)) {
                long only = pop();
                push(isLong ? Arithmetic.countLong(plain, only) : Arithmetic.countInt(plain, (int) only));
                return;
            }
            long right = pop();
            long left = pop();
            reason = Arithmetic.reasonAgainst(plain, left, right, isLong ? Long.MIN_VALUE : Integer.MIN_VALUE);
            if (reason == 0) {
                push(isLong ? Arithmetic.joinLongs(plain, left, right)
                    : Arithmetic.joinInts(plain, (int) left, (int) right));
            }
        }

        private void performConversion(int op) {
            long value = pop();
            if (op == Op.I64_EXTEND_I32_U) {
                push(value & LOW_32);
            } else {
                push((int) value);
            }
        }

        private void push(long value) {
            if (height >= STACK_MOST) {
                reason = STACK_FULL;
                return;
            }
            stack[height] = value;
            height++;
        }

        private long pop() {
            height--;
            return stack[height];
        }
    }

    /** What the numeric instructions answer, each under the name that it has for i32. */
    private static final class Arithmetic {
        private static final int BY_ZERO = 4;
        private static final int QUOTIENT_TOO_GREAT = 5;

        /** An i32 with its sign in all 64 bits keeps its place in both orders, so this serves i64 and i32. */
        static boolean compares(int op, long a, long b) {
            switch (op) {
                case Op.EQZ:
                case Op.EQ:
                    return a == b;
                case Op.NE:
                    return a != b;
                case Op.LT_S:
                    return a < b;
                case Op.LT_U:
                    return Long.compareUnsigned(a, b) < 0;
                case Op.GT_S:
                    return a > b;
                case Op.GT_U:
                    return Long.compareUnsigned(a, b) > 0;
                case Op.LE_S:
                    return a <= b;
                case Op.LE_U:
                    return Long.compareUnsigned(a, b) <= 0;
                case Op.GE_S:
                    return a >= b;
                default:
                    return Long.compareUnsigned(a, b) >= 0;
            }
        }

        /** Why the instruction can't be done, 0 if it can. */
        static int reasonAgainst(int op, long a, long b, long least) {
            if (op < Op.DIV_S || op > Op.REM_U) {
                return 0;
            }
            if (b == 0) {
                return BY_ZERO;
            }
            return op == Op.DIV_S && a == least && b == -1 ? QUOTIENT_TOO_GREAT : 0;
        }

        static int countInt(int op, int a) {
            switch (op) {
                case Op.CLZ:
                    return Integer.numberOfLeadingZeros(a);
                case Op.CTZ:
                    return Integer.numberOfTrailingZeros(a);
                default:
                    return Integer.bitCount(a);
            }
        }

        static int countLong(int op, long a) {
            switch (op) {
                case Op.CLZ:
                    return Long.numberOfLeadingZeros(a);
                case Op.CTZ:
                    return Long.numberOfTrailingZeros(a);
                default:
                    return Long.bitCount(a);
            }
        }

        static int joinInts(int op, int a, int b) {
            switch (op) {
                case Op.ADD:
                    return a + b;
                case Op.SUB:
                    return a - b;
                case Op.MUL:
                    return a * b;
                case Op.AND:
                    return a & b;
                case Op.OR:
                    return a | b;
                case Op.XOR:
                    return a ^ b;
                case Op.SHL:
                    return a << b;
                case Op.SHR_S:
                    return a >> b;
                case Op.SHR_U:
                    return a >>> b;
                case Op.ROTL:
                    return Integer.rotateLeft(a, b);
                case Op.ROTR:
                    return Integer.rotateRight(a, b);
                default:
                    return b == 0 ? 0 : divideInts(op, a, b);
            }
        }

        private static int divideInts(int op, int a, int b) {
            switch (op) {
                case Op.DIV_S:
                    return a / b;
                case Op.DIV_U:
                    return Integer.divideUnsigned(a, b);
                case Op.REM_S:
                    return a % b;
                default:
                    return Integer.remainderUnsigned(a, b);
            }
        }

        static long joinLongs(int op, long a, long b) {
            switch (op) {
                case Op.ADD:
                    return a + b;
                case Op.SUB:
                    return a - b;
                case Op.MUL:
                    return a * b;
                case Op.AND:
                    return a & b;
                case Op.OR:
                    return a | b;
                case Op.XOR:
                    return a ^ b;
                case Op.SHL:
                    return a << b;
                case Op.SHR_S:
                    return a >> b;
                case Op.SHR_U:
                    return a >>> b;
                case Op.ROTL:
                    return Long.rotateLeft(a, (int) b);
                case Op.ROTR:
                    return Long.rotateRight(a, (int) b);
                default:
                    return b == 0 ? 0 : divideLongs(op, a, b);
            }
        }

        private static long divideLongs(int op, long a, long b) {
            switch (op) {
                case Op.DIV_S:
                    return a / b;
                case Op.DIV_U:
                    return Long.divideUnsigned(a, b);
                case Op.REM_S:
                    return a % b;
                default:
                    return Long.remainderUnsigned(a, b);
            }
        }
    }
}
