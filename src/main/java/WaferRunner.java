import java.util.Arrays;

/** A reader, validator and machine for small WebAssembly modules. */
public final class WaferRunner {
    private static final int TAPE_MOST = 2000;
    private static final int FEED_BYTES = 20;
    private static final int ARGUMENTS_MOST = 8;
    private static final int PAGE = 65536;
    private static final int PAGES_MOST = 2;

    private static final int NOT_READ = 1;
    private static final int NOT_VALID = 2;

    private static final int I32 = 0x7F;
    private static final int I64 = 0x7E;
    private static final int NO_TYPE = 0x40;
    private static final long LOW_32 = 0xFFFFFFFFL;

    private final byte[] tape;
    private int tapeLength;
    private final long[] arguments;
    private int argumentCount;
    private final Reader reader;
    private final Validator validator;
    private final Machine machine;
    private Wafer current;
    private Wafer spare;
    private boolean loaded;
    private int reason;

    public WaferRunner() {
        tape = new byte[TAPE_MOST];
        arguments = new long[ARGUMENTS_MOST];
        reader = new Reader();
        validator = new Validator();
        machine = new Machine();
        // Two wafers take turns, so that the old one stays whole while a new one is tried.
        current = new Wafer();
        spare = new Wafer();
    }

    public int feed(int a, int b, int c, int d, int e) throws IndexOutOfBoundsException {
        if (tapeLength + FEED_BYTES > TAPE_MOST) {
            throw new IndexOutOfBoundsException("the tape would be too long");
        }
        putInt(a);
        putInt(b);
        putInt(c);
        putInt(d);
        putInt(e);
        return tapeLength;
    }

    public int end(int n) throws IllegalArgumentException {
        if (n < 0 || n > tapeLength) {
            throw new IllegalArgumentException("not a length that the tape can keep");
        }
        tapeLength = n;
        return n;
    }

    public int module() throws UnsupportedOperationException {
        boolean isRead = reader.reads(tape, tapeLength, spare);
        boolean isValid = isRead && validator.accepts(spare);
        tapeLength = 0;
        reason = isValid ? 0 : isRead ? NOT_VALID : NOT_READ;
        if (!isValid) {
            throw new UnsupportedOperationException("not a module that can be read and is valid");
        }
        Wafer old = current;
        current = spare;
        spare = old;
        loaded = true;
        machine.begin(current);
        return current.functionCount;
    }

    public int find() {
        int length = tapeLength;
        tapeLength = 0;
        return loaded ? current.exports.functionNamed(tape, length) : -1;
    }

    public int argument(long v) throws IndexOutOfBoundsException {
        if (argumentCount >= ARGUMENTS_MOST) {
            throw new IndexOutOfBoundsException("too many arguments");
        }
        arguments[argumentCount] = v;
        argumentCount++;
        return argumentCount;
    }

    public long call(int f) throws IllegalArgumentException, IllegalStateException, ArithmeticException {
        requireModule();
        requireRange(f, current.functionCount);
        int given = argumentCount;
        argumentCount = 0;
        if (given != current.parameterCountOf(f)) {
            throw new IllegalArgumentException("another number of arguments");
        }
        reason = machine.run(f, arguments);
        if (reason != 0) {
            throw new ArithmeticException("the run was ended");
        }
        return machine.result(f);
    }

    public long global(int g) throws IllegalArgumentException, IllegalStateException {
        requireModule();
        requireRange(g, current.globalCount);
        return machine.globals[g];
    }

    public int memory(int i) throws IllegalArgumentException, IllegalStateException {
        requireModule();
        requireRange(i, machine.pages * PAGE);
        return machine.bytes[i] & 255;
    }

    public int count(int what) throws IllegalArgumentException {
        switch (what) {
            case 0:
                return tapeLength;
            case 1:
                return reason;
            case 2:
                return loaded ? current.functionCount : -1;
            case 3:
                return loaded ? current.globalCount : -1;
            case 4:
                return loaded ? machine.pages : -1;
            case 5:
                return machine.steps;
            case 6:
                return argumentCount;
            default:
                throw new IllegalArgumentException("no such count");
        }
    }

    private void putInt(int four) {
        for (int shift = 24; shift >= 0; shift -= 8) {
            tape[tapeLength] = (byte) (four >> shift);
            tapeLength++;
        }
    }

    private void requireModule() {
        if (!loaded) {
            throw new IllegalStateException("there is no module");
        }
    }

    private static void requireRange(int number, int bound) {
        if (number < 0 || number >= bound) {
            throw new IllegalArgumentException("a number out of range");
        }
    }

    /** The instructions by name; those of i64 stand in the same order as those of i32. */
    private static final class Op {
        static final int UNREACHABLE = 0x00;
        static final int NOP = 0x01;
        static final int BLOCK = 0x02;
        static final int LOOP = 0x03;
        static final int IF = 0x04;
        static final int ELSE = 0x05;
        static final int END = 0x0B;
        static final int BR = 0x0C;
        static final int BR_IF = 0x0D;
        static final int BR_TABLE = 0x0E;
        static final int RETURN = 0x0F;
        static final int CALL = 0x10;
        static final int DROP = 0x1A;
        static final int SELECT = 0x1B;
        static final int LOCAL_GET = 0x20;
        static final int LOCAL_SET = 0x21;
        static final int LOCAL_TEE = 0x22;
        static final int GLOBAL_GET = 0x23;
        static final int GLOBAL_SET = 0x24;
        static final int I32_LOAD = 0x28;
        static final int I64_LOAD = 0x29;
        static final int I32_LOAD8_S = 0x2C;
        static final int I32_LOAD8_U = 0x2D;
        static final int I32_STORE = 0x36;
        static final int I64_STORE = 0x37;
        static final int I32_STORE8 = 0x3A;
        static final int MEMORY_SIZE = 0x3F;
        static final int MEMORY_GROW = 0x40;
        static final int I32_CONST = 0x41;
        static final int I64_CONST = 0x42;

        static final int EQZ = 0x45;
        static final int EQ = 0x46;
        static final int NE = 0x47;
        static final int LT_S = 0x48;
        static final int LT_U = 0x49;
        static final int GT_S = 0x4A;
        static final int GT_U = 0x4B;
        static final int LE_S = 0x4C;
        static final int LE_U = 0x4D;
        static final int GE_S = 0x4E;
        static final int GE_U = 0x4F;
        static final int I64_EQZ = 0x50;
        static final int I64_GE_U = 0x5A;

        static final int CLZ = 0x67;
        static final int CTZ = 0x68;
        static final int POPCNT = 0x69;
        static final int ADD = 0x6A;
        static final int SUB = 0x6B;
        static final int MUL = 0x6C;
        static final int DIV_S = 0x6D;
        static final int DIV_U = 0x6E;
        static final int REM_S = 0x6F;
        static final int REM_U = 0x70;
        static final int AND = 0x71;
        static final int OR = 0x72;
        static final int XOR = 0x73;
        static final int SHL = 0x74;
        static final int SHR_S = 0x75;
        static final int SHR_U = 0x76;
        static final int ROTL = 0x77;
        static final int ROTR = 0x78;
        static final int I64_CLZ = 0x79;
        static final int I64_POPCNT = 0x7B;
        static final int I64_ROTR = 0x8A;

        static final int I32_WRAP_I64 = 0xA7;
        static final int I64_EXTEND_I32_S = 0xAC;
        static final int I64_EXTEND_I32_U = 0xAD;

        /** The end of a whole code, kept apart from the end of a block: no byte says it. */
        static final int LEAVE = 0x100;

        /** How far a row of i64 stands behind that of i32. */
        static final int COMPARISON_GAP = I64_EQZ - EQZ;
        static final int ARITHMETIC_GAP = I64_CLZ - CLZ;

        /** First and last of each run of instructions that may be read. */
        private static final int[] KNOWN = {
            UNREACHABLE, ELSE, END, CALL, DROP, SELECT, LOCAL_GET, GLOBAL_SET,
            I32_LOAD, I64_LOAD, I32_LOAD8_S, I32_LOAD8_U, I32_STORE, I64_STORE,
            I32_STORE8, I32_STORE8, MEMORY_SIZE, I64_CONST, EQZ, I64_GE_U, CLZ, I64_ROTR,
            I32_WRAP_I64, I32_WRAP_I64, I64_EXTEND_I32_S, I64_EXTEND_I32_U
        };

        static boolean isKnown(int op) {
            for (int k = 0; k + 1 < KNOWN.length; k += 2) {
                if (op >= KNOWN[k] && op <= KNOWN[k + 1]) {
                    return true;
                }
            }
            return false;
        }

        /** How many bytes of the memory a load or store touches. */
        static int width(int op) {
            if (op == I64_LOAD || op == I64_STORE) {
                return 8;
            }
            return op == I32_LOAD || op == I32_STORE ? 4 : 1;
        }

        static boolean isLoad(int op) {
            return op >= I32_LOAD && op <= I32_LOAD8_U;
        }
    }

    /** The instructions of all functions, one after the other, with what belongs to each. */
    private static final class Code {
        static final int NOWHERE = -1;

        int size;
        final int[] ops;
        /** A constant, an index, a label, an offset, or how many labels a table has besides the last. */
        final long[] values;
        /** A block's type, an alignment, or where a table's labels begin. */
        final int[] extras;
        /** Of a block, and of an else: its end. */
        final int[] ends;
        /** Of an if: its else, or NOWHERE. */
        final int[] elses;
        /** Of a block: the values that lie below its own in the function. */
        final int[] heights;
        /** Of a branch: the block that it goes to, or NOWHERE if it leaves the function. */
        final int[] targets;
        int labelCount;
        final int[] labels;
        final int[] labelTargets;

        Code() {
            ops = new int[TAPE_MOST];
            values = new long[TAPE_MOST];
            extras = new int[TAPE_MOST];
            ends = new int[TAPE_MOST];
            elses = new int[TAPE_MOST];
            heights = new int[TAPE_MOST];
            targets = new int[TAPE_MOST];
            labels = new int[TAPE_MOST];
            labelTargets = new int[TAPE_MOST];
        }

        void clear() {
            size = 0;
            labelCount = 0;
        }

        /** Each instruction took a byte of the tape, so there is a place for it. */
        int add(int op) {
            int at = size;
            ops[at] = op;
            values[at] = 0;
            extras[at] = NO_TYPE;
            ends[at] = NOWHERE;
            elses[at] = NOWHERE;
            heights[at] = 0;
            targets[at] = NOWHERE;
            size++;
            return at;
        }

        void addLabel(int label) {
            labels[labelCount] = label;
            labelTargets[labelCount] = NOWHERE;
            labelCount++;
        }
    }

    /** The exports of a wafer. */
    private static final class Exports {
        static final int MOST = 40;
        static final int NAME_MOST = 30;
        static final int FUNCTION = 0;
        static final int MEMORY = 2;
        static final int GLOBAL = 3;

        int size;
        final int[] kinds;
        final int[] indices;
        final int[] nameLengths;
        final byte[] names;

        Exports() {
            kinds = new int[MOST];
            indices = new int[MOST];
            nameLengths = new int[MOST];
            names = new byte[MOST * NAME_MOST];
        }

        int functionNamed(byte[] name, int length) {
            for (int x = 0; x < size; x++) {
                if (kinds[x] == FUNCTION && isNamed(x, name, 0, length)) {
                    return indices[x];
                }
            }
            return -1;
        }

        boolean haveDifferentNames() {
            for (int x = 0; x < size; x++) {
                for (int y = 0; y < x; y++) {
                    if (isNamed(x, names, y * NAME_MOST, nameLengths[y])) {
                        return false;
                    }
                }
            }
            return true;
        }

        private boolean isNamed(int x, byte[] name, int start, int length) {
            if (nameLengths[x] != length) {
                return false;
            }
            for (int k = 0; k < length; k++) {
                if (names[x * NAME_MOST + k] != name[start + k]) {
                    return false;
                }
            }
            return true;
        }
    }

    /** A module as it was read. */
    private static final class Wafer {
        static final int TYPES_MOST = 20;
        static final int PARAMETERS_MOST = 8;
        static final int FUNCTIONS_MOST = 30;
        static final int LOCALS_MOST = 60;
        static final int GLOBALS_MOST = 20;
        static final int PAGES_BOUND = 65536;

        int typeCount;
        final int[] parameterCounts;
        final int[] parameters;
        final int[] results;
        int functionCount;
        final int[] functionTypes;
        final int[] starts;
        final int[] localCounts;
        final int[] locals;
        boolean hasMemory;
        long pagesAtFirst;
        long pagesMost;
        int globalCount;
        final int[] globalTypes;
        final boolean[] globalsChange;
        final int[] initialTypes;
        final long[] initialValues;
        final Exports exports;
        final Code code;

        Wafer() {
            parameterCounts = new int[TYPES_MOST];
            parameters = new int[TYPES_MOST * PARAMETERS_MOST];
            results = new int[TYPES_MOST];
            functionTypes = new int[FUNCTIONS_MOST];
            starts = new int[FUNCTIONS_MOST];
            localCounts = new int[FUNCTIONS_MOST];
            locals = new int[FUNCTIONS_MOST * LOCALS_MOST];
            globalTypes = new int[GLOBALS_MOST];
            globalsChange = new boolean[GLOBALS_MOST];
            initialTypes = new int[GLOBALS_MOST];
            initialValues = new long[GLOBALS_MOST];
            exports = new Exports();
            code = new Code();
        }

        void clear() {
            typeCount = 0;
            functionCount = 0;
            hasMemory = false;
            pagesAtFirst = 0;
            pagesMost = 0;
            globalCount = 0;
            exports.size = 0;
            code.clear();
        }

        int parameterCountOf(int f) {
            return parameterCounts[functionTypes[f]];
        }

        int parameterTypeOf(int f, int p) {
            return parameters[functionTypes[f] * PARAMETERS_MOST + p];
        }

        int resultOf(int f) {
            return results[functionTypes[f]];
        }

        /** The type of a parameter or local; NO_TYPE if the function has no such one. */
        int variableTypeOf(int f, long index) {
            int parameterCount = parameterCountOf(f);
            if (index < parameterCount) {
                return parameterTypeOf(f, (int) index);
            }
            long local = index - parameterCount;
            return local < localCounts[f] ? locals[f * LOCALS_MOST + (int) local] : NO_TYPE;
        }
    }

    /** Bytes that are taken one after the other; once one is not as it must be, all that follow are 0. */
    private static final class Source {
        static final long NUMBER_MOST = 0xFFFFFFFFL;
        static final long INDEX_MOST = 0x7FFFFFFFL;
        private static final int NUMBER_BYTES = 5;

        private byte[] bytes;
        private int at;
        private int limit;
        private boolean failed;

        void open(byte[] row, int length) {
            bytes = row;
            at = 0;
            limit = length;
            failed = false;
        }

        void fail() {
            failed = true;
        }

        boolean hasFailed() {
            return failed;
        }

        boolean hasMore() {
            return !failed && at < limit;
        }

        int octet() {
            if (failed || at >= limit) {
                failed = true;
                return 0;
            }
            int b = bytes[at] & 255;
            at++;
            return b;
        }

        void require(int wanted) {
            if (octet() != wanted) {
                failed = true;
            }
        }

        boolean flag() {
            int b = octet();
            if (b > 1) {
                failed = true;
            }
            return b == 1;
        }

        int valueType() {
            int type = octet();
            if (type != I32 && type != I64) {
                failed = true;
            }
            return type;
        }

        long unsigned(long most) {
            long value = 0;
            for (int k = 0; k < NUMBER_BYTES; k++) {
                int b = octet();
                value |= (long) (b & 127) << 7 * k;
                if (b < 128) {
                    if (value > most) {
                        failed = true;
                    }
                    return failed ? 0 : value;
                }
            }
            failed = true;
            return 0;
        }

        long signed(int bits) {
            long value = 0;
            for (int shift = 0; shift < bits; shift += 7) {
                int b = octet();
                if (b < 128) {
                    int part = b << 25 >> 25;
                    // The last byte that there may be has bits to spare, and they must all be the sign.
                    int signs = part >> Math.min(7, bits - shift) - 1;
                    if (signs != 0 && signs != -1) {
                        failed = true;
                    }
                    return value | (long) part << shift;
                }
                value |= (long) (b & 127) << shift;
            }
            failed = true;
            return 0;
        }

        /** Ends the source behind the next part, whose size stands before it; answers where it ended. */
        int narrow() {
            int outer = limit;
            long size = unsigned(NUMBER_MOST);
            if (size > limit - at) {
                failed = true;
            } else {
                limit = at + (int) size;
            }
            return outer;
        }

        /** The part must have been taken to its last byte. */
        void widen(int outer) {
            if (at != limit) {
                failed = true;
            }
            limit = outer;
        }

        int left() {
            return limit - at;
        }

        void skipRest() {
            at = limit;
        }
    }

    /** Reads a whole module into a wafer. */
    private static final class Reader {
        private static final int[] HEAD = {0x00, 0x61, 0x73, 0x6D, 0x01, 0x00, 0x00, 0x00};
        private static final int FUNCTION_TYPE = 0x60;
        private static final int CUSTOM = 0;

        private final Source source;
        private final BodyReader bodyReader;
        private Wafer wafer;
        private int codeCount;

        Reader() {
            source = new Source();
            bodyReader = new BodyReader();
        }

        boolean reads(byte[] row, int length, Wafer into) {
            source.open(row, length);
            wafer = into;
            wafer.clear();
            codeCount = 0;
            for (int k = 0; k < HEAD.length; k++) {
                source.require(HEAD[k]);
            }
            int last = 0;
            for (int k = 0; k < TAPE_MOST && source.hasMore(); k++) {
                int id = source.octet();
                if (id != CUSTOM && id <= last) {
                    source.fail();
                }
                last = Math.max(id, last);
                readSection(id);
            }
            return !source.hasFailed() && codeCount == wafer.functionCount;
        }

        private void readSection(int id) {
            int outer = source.narrow();
            switch (id) {
                case CUSTOM:
                    readCustom();
                    break;
                case 1:
                    readTypes();
                    break;
                case 3:
                    readFunctions();
                    break;
                case 5:
                    readMemories();
                    break;
                case 6:
                    readGlobals();
                    break;
                case 7:
                    readExports();
                    break;
                case 10:
                    codeCount = (int) source.unsigned(Wafer.FUNCTIONS_MOST);
                    bodyReader.readAll(source, wafer, codeCount);
                    break;
                default:
                    source.fail();
                    break;
            }
            source.widen(outer);
        }

        private void readCustom() {
            long nameLength = source.unsigned(Source.NUMBER_MOST);
            if (nameLength > source.left()) {
                source.fail();
            }
            source.skipRest();
        }

        private void readTypes() {
            wafer.typeCount = (int) source.unsigned(Wafer.TYPES_MOST);
            for (int t = 0; t < wafer.typeCount; t++) {
                source.require(FUNCTION_TYPE);
                wafer.parameterCounts[t] = (int) source.unsigned(Wafer.PARAMETERS_MOST);
                for (int p = 0; p < wafer.parameterCounts[t]; p++) {
                    wafer.parameters[t * Wafer.PARAMETERS_MOST + p] = source.valueType();
                }
                wafer.results[t] = source.unsigned(1) == 1 ? source.valueType() : NO_TYPE;
            }
        }

        private void readFunctions() {
            wafer.functionCount = (int) source.unsigned(Wafer.FUNCTIONS_MOST);
            for (int f = 0; f < wafer.functionCount; f++) {
                wafer.functionTypes[f] = (int) source.unsigned(Source.INDEX_MOST);
            }
        }

        private void readMemories() {
            wafer.hasMemory = source.unsigned(1) == 1;
            if (wafer.hasMemory) {
                boolean hasMost = source.flag();
                wafer.pagesAtFirst = source.unsigned(Source.NUMBER_MOST);
                wafer.pagesMost = hasMost ? source.unsigned(Source.NUMBER_MOST) : Wafer.PAGES_BOUND;
            }
        }

        private void readGlobals() {
            wafer.globalCount = (int) source.unsigned(Wafer.GLOBALS_MOST);
            for (int g = 0; g < wafer.globalCount; g++) {
                wafer.globalTypes[g] = source.valueType();
                wafer.globalsChange[g] = source.flag();
                readInitialValue(g);
            }
        }

        private void readInitialValue(int g) {
            int op = source.octet();
            if (op == Op.I32_CONST) {
                wafer.initialTypes[g] = I32;
                wafer.initialValues[g] = source.signed(32);
            } else if (op == Op.I64_CONST) {
                wafer.initialTypes[g] = I64;
                wafer.initialValues[g] = source.signed(64);
            } else {
                source.fail();
            }
            source.require(Op.END);
        }

        private void readExports() {
            Exports exports = wafer.exports;
            exports.size = (int) source.unsigned(Exports.MOST);
            for (int x = 0; x < exports.size; x++) {
                exports.nameLengths[x] = (int) source.unsigned(Exports.NAME_MOST);
                for (int k = 0; k < exports.nameLengths[x]; k++) {
                    exports.names[x * Exports.NAME_MOST + k] = (byte) source.octet();
                }
                int kind = source.octet();
                if (kind != Exports.FUNCTION && kind != Exports.MEMORY && kind != Exports.GLOBAL) {
                    source.fail();
                }
                exports.kinds[x] = kind;
                exports.indices[x] = (int) source.unsigned(Source.INDEX_MOST);
            }
        }
    }

    /** Reads the locals and instructions of the functions. */
    private static final class BodyReader {
        private static final int RUNS_MOST = 60;
        private static final int OPEN_MOST = 100;
        private static final int LABELS_MOST = 50;

        private final int[] open;
        private int openCount;
        private Source source;
        private Code code;

        BodyReader() {
            open = new int[OPEN_MOST];
        }

        void readAll(Source from, Wafer wafer, int codeCount) {
            source = from;
            code = wafer.code;
            for (int f = 0; f < codeCount && !source.hasFailed(); f++) {
                int outer = source.narrow();
                readLocals(wafer, f);
                wafer.starts[f] = code.size;
                openCount = 0;
                boolean goesOn = true;
                for (int k = 0; k < TAPE_MOST && goesOn; k++) {
                    goesOn = readInstruction();
                }
                source.widen(outer);
            }
        }

        private void readLocals(Wafer wafer, int f) {
            int runs = (int) source.unsigned(RUNS_MOST);
            int size = 0;
            for (int r = 0; r < runs; r++) {
                int length = (int) source.unsigned(Wafer.LOCALS_MOST - size);
                int type = source.valueType();
                for (int k = 0; k < length; k++) {
                    wafer.locals[f * Wafer.LOCALS_MOST + size] = type;
                    size++;
                }
            }
            wafer.localCounts[f] = size;
        }

        /** Answers whether the code goes on behind the instruction. */
        private boolean readInstruction() {
            int op = source.octet();
            if (source.hasFailed() || !Op.isKnown(op)) {
                source.fail();
                return false;
            }
            int at = code.add(op);
            switch (op) {
                case Op.BLOCK:
                case Op.LOOP:
                case Op.IF:
                    openBlock(at);
                    break;
                case Op.ELSE:
                    turnToElse(at);
                    break;
                case Op.END:
                    return closeBlock(at);
                case Op.BR_TABLE:
                    readTable(at);
                    break;
                default:
                    readImmediate(op, at);
                    break;
            }
            return true;
        }

        private void openBlock(int at) {
            int type = source.octet();
            if (type != NO_TYPE && type != I32 && type != I64 || openCount >= OPEN_MOST) {
                source.fail();
                return;
            }
            code.extras[at] = type;
            open[openCount] = at;
            openCount++;
        }

        private void turnToElse(int at) {
            int opener = openCount > 0 ? open[openCount - 1] : Code.NOWHERE;
            if (opener < 0 || code.ops[opener] != Op.IF || code.elses[opener] >= 0) {
                source.fail();
                return;
            }
            code.elses[opener] = at;
        }

        private boolean closeBlock(int at) {
            if (openCount == 0) {
                code.ops[at] = Op.LEAVE;
                return false;
            }
            openCount--;
            int opener = open[openCount];
            code.ends[opener] = at;
            if (code.elses[opener] >= 0) {
                code.ends[code.elses[opener]] = at;
            }
            return true;
        }

        private void readTable(int at) {
            int besides = (int) source.unsigned(LABELS_MOST);
            code.values[at] = besides;
            code.extras[at] = code.labelCount;
            // A label takes a byte of the tape at least, so there is a place for each that is there.
            for (int k = 0; k <= besides && source.hasMore(); k++) {
                code.addLabel((int) source.unsigned(Source.INDEX_MOST));
            }
            if (code.labelCount - code.extras[at] != besides + 1) {
                source.fail();
            }
        }

        private void readImmediate(int op, int at) {
            if (op == Op.BR || op == Op.BR_IF || op == Op.CALL || op >= Op.LOCAL_GET && op <= Op.GLOBAL_SET) {
                code.values[at] = source.unsigned(Source.INDEX_MOST);
            } else if (op >= Op.I32_LOAD && op <= Op.I32_STORE8) {
                code.extras[at] = (int) source.unsigned(Source.INDEX_MOST);
                code.values[at] = source.unsigned(Source.NUMBER_MOST);
            } else if (op == Op.MEMORY_SIZE || op == Op.MEMORY_GROW) {
                source.require(0);
            } else if (op == Op.I32_CONST) {
                code.values[at] = source.signed(32);
            } else if (op == Op.I64_CONST) {
                code.values[at] = source.signed(64);
            }
        }
    }

    /** Says whether a wafer that was read is valid. */
    private static final class Validator {
        private final BodyValidator bodyValidator;

        Validator() {
            bodyValidator = new BodyValidator();
        }

        boolean accepts(Wafer wafer) {
            boolean good = acceptsFunctions(wafer) && acceptsMemory(wafer) && acceptsGlobals(wafer)
                && acceptsExports(wafer);
            for (int f = 0; f < wafer.functionCount && good; f++) {
                good = bodyValidator.accepts(wafer, f);
            }
            return good;
        }

        private static boolean acceptsFunctions(Wafer wafer) {
            for (int f = 0; f < wafer.functionCount; f++) {
                if (wafer.functionTypes[f] >= wafer.typeCount) {
                    return false;
                }
            }
            return true;
        }

        private static boolean acceptsMemory(Wafer wafer) {
            return wafer.pagesAtFirst <= PAGES_MOST && wafer.pagesMost <= Wafer.PAGES_BOUND
                && wafer.pagesAtFirst <= wafer.pagesMost;
        }

        private static boolean acceptsGlobals(Wafer wafer) {
            for (int g = 0; g < wafer.globalCount; g++) {
                if (wafer.initialTypes[g] != wafer.globalTypes[g]) {
                    return false;
                }
            }
            return true;
        }

        private static boolean acceptsExports(Wafer wafer) {
            Exports exports = wafer.exports;
            for (int x = 0; x < exports.size; x++) {
                if (exports.indices[x] >= howMany(wafer, exports.kinds[x])) {
                    return false;
                }
            }
            return exports.haveDifferentNames();
        }

        private static int howMany(Wafer wafer, int kind) {
            if (kind == Exports.FUNCTION) {
                return wafer.functionCount;
            }
            if (kind == Exports.GLOBAL) {
                return wafer.globalCount;
            }
            return wafer.hasMemory ? 1 : 0;
        }
    }

    /** Goes once through a function with the types that lie on the stack, and finds where branches go. */
    private static final class BodyValidator {
        /** Of a value that is taken from the stack where the code can't be reached. */
        private static final int ANY_TYPE = 0;
        private static final int OPEN_MOST = BodyReader.OPEN_MOST + 1;

        private Wafer wafer;
        private Code code;
        private int function;
        private final int[] types;
        private int height;
        /** The open blocks; the function itself, which has no opener, lies lowest. */
        private final int[] openers;
        private final int[] bases;
        private final int[] blockTypes;
        /** What a branch to the block carries. */
        private final int[] labelTypes;
        private final boolean[] unreachable;
        private int openCount;
        private boolean failed;

        BodyValidator() {
            // No instruction leaves more than one value more than there were.
            types = new int[TAPE_MOST];
            openers = new int[OPEN_MOST];
            bases = new int[OPEN_MOST];
            blockTypes = new int[OPEN_MOST];
            labelTypes = new int[OPEN_MOST];
            unreachable = new boolean[OPEN_MOST];
        }

        boolean accepts(Wafer whole, int f) {
            wafer = whole;
            code = whole.code;
            function = f;
            height = 0;
            openCount = 0;
            failed = false;
            int result = wafer.resultOf(f);
            openBlock(Code.NOWHERE, result, result);
            for (int at = wafer.starts[f]; at < code.size && openCount > 0 && !failed; at++) {
                check(code.ops[at], at);
            }
            return !failed;
        }

        private void check(int op, int at) {
            if (op == Op.LEAVE || op <= Op.CALL) {
                checkControl(op, at);
            } else if (op == Op.DROP) {
                pop(ANY_TYPE);
            } else if (op == Op.SELECT) {
                pop(I32);
                push(pop(pop(ANY_TYPE)));
            } else if (op <= Op.LOCAL_TEE) {
                checkLocal(op, wafer.variableTypeOf(function, code.values[at]));
            } else if (op <= Op.GLOBAL_SET) {
                checkGlobal(op, code.values[at]);
            } else if (op <= Op.MEMORY_GROW) {
                checkMemory(op, at);
            } else if (op <= Op.I64_CONST) {
                push(op == Op.I32_CONST ? I32 : I64);
            } else {
                checkNumeric(op);
            }
        }

        private void checkControl(int op, int at) {
            switch (op) {
                case Op.NOP:
                    break;
                case Op.UNREACHABLE:
                    becomeUnreachable();
                    break;
                case Op.BLOCK:
                    openBlock(at, code.extras[at], code.extras[at]);
                    break;
                case Op.LOOP:
                    openBlock(at, code.extras[at], NO_TYPE);
                    break;
                case Op.IF:
                    pop(I32);
                    openBlock(at, code.extras[at], code.extras[at]);
                    break;
                case Op.ELSE:
                    checkElse();
                    break;
                case Op.BR:
                case Op.BR_IF:
                    checkBranch(op, at);
                    break;
                case Op.BR_TABLE:
                    checkTable(at);
                    break;
                case Op.RETURN:
                    pop(wafer.resultOf(function));
                    becomeUnreachable();
                    break;
                case Op.CALL:
                    checkCall(code.values[at]);
                    break;
                default:
                    closeBlock();
                    break;
            }
        }

        private void openBlock(int opener, int blockType, int labelType) {
            if (openCount >= OPEN_MOST) {
                failed = true;
                return;
            }
            openers[openCount] = opener;
            bases[openCount] = height;
            blockTypes[openCount] = blockType;
            labelTypes[openCount] = labelType;
            unreachable[openCount] = false;
            openCount++;
            if (opener >= 0) {
                code.heights[opener] = height;
            }
        }

        private void checkElse() {
            int top = openCount - 1;
            pop(blockTypes[top]);
            if (height != bases[top]) {
                failed = true;
            }
            unreachable[top] = false;
        }

        private void closeBlock() {
            int top = openCount - 1;
            int opener = openers[top];
            pop(blockTypes[top]);
            if (height != bases[top]) {
                failed = true;
            }
            // An if without else gives nothing when it is passed over.
            if (opener >= 0 && code.ops[opener] == Op.IF && code.elses[opener] < 0 && blockTypes[top] != NO_TYPE) {
                failed = true;
            }
            openCount--;
            push(blockTypes[top]);
        }

        private void checkBranch(int op, int at) {
            if (op == Op.BR_IF) {
                pop(I32);
            }
            int level = levelOf(code.values[at]);
            if (level < 0) {
                failed = true;
                return;
            }
            code.targets[at] = openers[level];
            pop(labelTypes[level]);
            if (op == Op.BR_IF) {
                push(labelTypes[level]);
            } else {
                becomeUnreachable();
            }
        }

        /** Below 0 if so many blocks are not open. */
        private int levelOf(long label) {
            return label < openCount ? openCount - 1 - (int) label : -1;
        }

        private void checkTable(int at) {
            int first = code.extras[at];
            int last = first + (int) code.values[at];
            int lastLevel = levelOf(code.labels[last]);
            for (int k = first; k <= last; k++) {
                int level = levelOf(code.labels[k]);
                if (level < 0 || lastLevel < 0 || labelTypes[level] != labelTypes[lastLevel]) {
                    failed = true;
                    return;
                }
                code.labelTargets[k] = openers[level];
            }
            pop(I32);
            pop(labelTypes[lastLevel]);
            becomeUnreachable();
        }

        private void checkCall(long callee) {
            if (callee >= wafer.functionCount) {
                failed = true;
                return;
            }
            int f = (int) callee;
            for (int p = wafer.parameterCountOf(f) - 1; p >= 0; p--) {
                pop(wafer.parameterTypeOf(f, p));
            }
            push(wafer.resultOf(f));
        }

        private void checkLocal(int op, int type) {
            if (type == NO_TYPE) {
                failed = true;
                return;
            }
            if (op != Op.LOCAL_GET) {
                pop(type);
            }
            if (op != Op.LOCAL_SET) {
                push(type);
            }
        }

        private void checkGlobal(int op, long index) {
            if (index >= wafer.globalCount) {
                failed = true;
                return;
            }
            int g = (int) index;
            if (op == Op.GLOBAL_GET) {
                push(wafer.globalTypes[g]);
                return;
            }
            if (!wafer.globalsChange[g]) {
                failed = true;
            }
            pop(wafer.globalTypes[g]);
        }

        private void checkMemory(int op, int at) {
            if (!wafer.hasMemory) {
                failed = true;
            }
            if (op == Op.MEMORY_SIZE) {
                push(I32);
            } else if (op == Op.MEMORY_GROW) {
                pop(I32);
                push(I32);
            } else {
                checkAccess(op, code.extras[at]);
            }
        }

        private void checkAccess(int op, int alignment) {
            int width = Op.width(op);
            // The alignment is an exponent of 2; the widest access has 8 bytes.
            if (alignment > 3 || 1 << alignment > width) {
                failed = true;
            }
            int type = width == 8 ? I64 : I32;
            if (Op.isLoad(op)) {
                pop(I32);
                push(type);
            } else {
                pop(type);
                pop(I32);
            }
        }

        private void checkNumeric(int op) {
            if (op <= Op.GE_U) {
                checkOperands(op == Op.EQZ, I32, I32);
            } else if (op <= Op.I64_GE_U) {
                checkOperands(op == Op.I64_EQZ, I64, I32);
            } else if (op <= Op.ROTR) {
                checkOperands(op <= Op.POPCNT, I32, I32);
            } else if (op <= Op.I64_ROTR) {
                checkOperands(op <= Op.I64_POPCNT, I64, I64);
            } else if (op == Op.I32_WRAP_I64) {
                checkOperands(true, I64, I32);
            } else {
                checkOperands(true, I32, I64);
            }
        }

        private void checkOperands(boolean takesOne, int taken, int given) {
            pop(taken);
            if (!takesOne) {
                pop(taken);
            }
            push(given);
        }

        private void becomeUnreachable() {
            height = bases[openCount - 1];
            unreachable[openCount - 1] = true;
        }

        private void push(int type) {
            if (type == NO_TYPE) {
                return;
            }
            if (height >= types.length) {
                failed = true;
                return;
            }
            types[height] = type;
            height++;
        }

        /** Takes a value of that type, and answers its type as far as it is known. */
        private int pop(int wanted) {
            if (wanted == NO_TYPE) {
                return NO_TYPE;
            }
            if (height <= bases[openCount - 1]) {
                failed = failed || !unreachable[openCount - 1];
                return wanted;
            }
            height--;
            int found = types[height];
            if (found == ANY_TYPE) {
                return wanted;
            }
            if (wanted != ANY_TYPE && wanted != found) {
                failed = true;
            }
            return found;
        }
    }

    /** Runs the functions of a wafer; that it is valid keeps every index below within its row. */
    private static final class Machine {
        private static final int UNREACHABLE = 3;
        private static final int OUTSIDE_MEMORY = 6;
        private static final int STACK_FULL = 7;
        private static final int TOO_MANY_STEPS = 8;

        private static final int STACK_MOST = 12096;
        private static final int CALLS_MOST = 100;
        private static final int STEPS_MOST = 100000;
        /** More than enough: an else or end, which is no step, is passed at most once for a step that opened it. */
        private static final int TURNS_MOST = 1000000;

        final byte[] bytes;
        private boolean written;
        int pages;
        final long[] globals;
        int steps;
        private Wafer wafer;
        private Code code;
        private int reason;
        private int next;
        /** Parameters, locals and values of all open calls; an i32 lies there with its sign in all 64 bits. */
        private final long[] stack;
        private int height;
        private final int[] functions;
        private final int[] bases;
        private final int[] returns;
        private int depth;
        /** Where the parameters, and where the values of the innermost call begin. */
        private int variables;
        private int values;

        Machine() {
            bytes = new byte[PAGES_MOST * PAGE];
            globals = new long[Wafer.GLOBALS_MOST];
            stack = new long[STACK_MOST];
            functions = new int[CALLS_MOST];
            bases = new int[CALLS_MOST];
            returns = new int[CALLS_MOST];
        }

        void begin(Wafer whole) {
            if (written) {
                Arrays.fill(bytes, (byte) 0);
                written = false;
            }
            wafer = whole;
            code = whole.code;
            pages = (int) whole.pagesAtFirst;
            for (int g = 0; g < whole.globalCount; g++) {
                globals[g] = whole.initialValues[g];
            }
        }

        /** Answers the reason why the run was ended, 0 if it came to its end. */
        int run(int f, long[] arguments) {
            reason = 0;
            steps = 0;
            height = 0;
            depth = 0;
            for (int p = 0; p < wafer.parameterCountOf(f); p++) {
                push(wafer.parameterTypeOf(f, p) == I32 ? (int) arguments[p] : arguments[p]);
            }
            enter(f);
            for (int turn = 0; turn < TURNS_MOST && depth > 0 && reason == 0; turn++) {
                int at = next;
                int op = code.ops[at];
                next++;
                if (op == Op.LEAVE) {
                    leave();
                } else if (op == Op.ELSE) {
                    next = code.ends[at] + 1;
                } else if (op != Op.END) {
                    takeStep(op, at);
                }
            }
            return reason;
        }

        long result(int f) {
            return wafer.resultOf(f) == NO_TYPE ? 0 : stack[0];
        }

        private void takeStep(int op, int at) {
            steps++;
            if (steps > STEPS_MOST) {
                reason = TOO_MANY_STEPS;
            } else if (op <= Op.CALL) {
                performControl(op, at);
            } else if (op <= Op.GLOBAL_SET) {
                performVariable(op, (int) code.values[at]);
            } else if (op <= Op.MEMORY_GROW) {
                performMemory(op, at);
            } else if (op <= Op.I64_CONST) {
                push(code.values[at]);
            } else if (op <= Op.I64_GE_U) {
                performComparison(op);
            } else if (op <= Op.ROTR) {
                performInts(op);
            } else if (op <= Op.I64_ROTR) {
                performLongs(op - Op.ARITHMETIC_GAP);
            } else {
                long value = pop();
                push(op == Op.I64_EXTEND_I32_U ? value & LOW_32 : (int) value);
            }
        }

        private void performControl(int op, int at) {
            switch (op) {
                case Op.UNREACHABLE:
                    reason = UNREACHABLE;
                    break;
                case Op.IF:
                    if (pop() == 0) {
                        next = (code.elses[at] >= 0 ? code.elses[at] : code.ends[at]) + 1;
                    }
                    break;
                case Op.BR:
                    branch(code.targets[at]);
                    break;
                case Op.BR_IF:
                    if (pop() != 0) {
                        branch(code.targets[at]);
                    }
                    break;
                case Op.BR_TABLE:
                    int choice = (int) Math.min(pop() & LOW_32, code.values[at]);
                    branch(code.labelTargets[code.extras[at] + choice]);
                    break;
                case Op.RETURN:
                    leave();
                    break;
                case Op.CALL:
                    enter((int) code.values[at]);
                    break;
                default:
                    break;
            }
        }

        private void branch(int target) {
            if (target < 0) {
                leave();
            } else if (code.ops[target] == Op.LOOP) {
                height = values + code.heights[target];
                next = target + 1;
            } else {
                unwind(values + code.heights[target], code.extras[target]);
                next = code.ends[target] + 1;
            }
        }

        /** Takes all from there on off the stack, but for a value on top if there is a type for it. */
        private void unwind(int to, int type) {
            long top = type == NO_TYPE ? 0 : pop();
            height = to;
            if (type != NO_TYPE) {
                push(top);
            }
        }

        private void enter(int f) {
            int localCount = wafer.localCounts[f];
            if (depth >= CALLS_MOST || height + localCount > STACK_MOST) {
                reason = STACK_FULL;
                return;
            }
            functions[depth] = f;
            bases[depth] = height - wafer.parameterCountOf(f);
            returns[depth] = next;
            depth++;
            for (int k = 0; k < localCount; k++) {
                push(0);
            }
            variables = bases[depth - 1];
            values = height;
            next = wafer.starts[f];
        }

        private void leave() {
            depth--;
            unwind(variables, wafer.resultOf(functions[depth]));
            next = returns[depth];
            if (depth > 0) {
                int f = functions[depth - 1];
                variables = bases[depth - 1];
                values = variables + wafer.parameterCountOf(f) + wafer.localCounts[f];
            }
        }

        private void performVariable(int op, int index) {
            switch (op) {
                case Op.DROP:
                    pop();
                    break;
                case Op.SELECT:
                    select();
                    break;
                case Op.LOCAL_GET:
                    push(stack[variables + index]);
                    break;
                case Op.LOCAL_SET:
                    stack[variables + index] = pop();
                    break;
                case Op.LOCAL_TEE:
                    stack[variables + index] = stack[height - 1];
                    break;
                case Op.GLOBAL_GET:
                    push(globals[index]);
                    break;
                default:
                    globals[index] = pop();
                    break;
            }
        }

        private void select() {
            long choice = pop();
            long second = pop();
            long first = pop();
            push(choice != 0 ? first : second);
        }

        private void performMemory(int op, int at) {
            if (op == Op.MEMORY_SIZE) {
                push(pages);
            } else if (op == Op.MEMORY_GROW) {
                grow(pop() & LOW_32);
            } else if (Op.isLoad(op)) {
                load(op, (pop() & LOW_32) + code.values[at]);
            } else {
                long value = pop();
                store(op, (pop() & LOW_32) + code.values[at], value);
            }
        }

        private void grow(long more) {
            if (pages + more > Math.min(wafer.pagesMost, PAGES_MOST)) {
                push(-1);
                return;
            }
            push(pages);
            pages += (int) more;
        }

        private boolean isInside(long address, int width) {
            if (address + width > (long) pages * PAGE) {
                reason = OUTSIDE_MEMORY;
                return false;
            }
            return true;
        }

        private void load(int op, long address) {
            int width = Op.width(op);
            if (!isInside(address, width)) {
                return;
            }
            long value = 0;
            for (int k = width - 1; k >= 0; k--) {
                value = value << 8 | bytes[(int) address + k] & 255;
            }
            if (op == Op.I32_LOAD) {
                push((int) value);
            } else {
                push(op == Op.I32_LOAD8_S ? (byte) value : value);
            }
        }

        private void store(int op, long address, long value) {
            int width = Op.width(op);
            if (!isInside(address, width)) {
                return;
            }
            written = true;
            for (int k = 0; k < width; k++) {
                bytes[(int) address + k] = (byte) (value >> 8 * k);
            }
        }

        private void performComparison(int op) {
            int plain = op >= Op.I64_EQZ ? op - Op.COMPARISON_GAP : op;
            long right = plain == Op.EQZ ? 0 : pop();
            long left = pop();
            push(Arithmetic.compares(plain, left, right) ? 1 : 0);
        }

        private void performInts(int op) {
            if (op <= Op.POPCNT) {
                push(Arithmetic.countInt(op, (int) pop()));
                return;
            }
            int right = (int) pop();
            int left = (int) pop();
            reason = Arithmetic.reasonAgainst(op, left, right, Arithmetic.LEAST_INT);
            if (reason == 0) {
                push(Arithmetic.joinInts(op, left, right));
            }
        }

        private void performLongs(int op) {
            if (op <= Op.POPCNT) {
                push(Arithmetic.countLong(op, pop()));
                return;
            }
            long right = pop();
            long left = pop();
            reason = Arithmetic.reasonAgainst(op, left, right, Arithmetic.LEAST_LONG);
            if (reason == 0) {
                push(Arithmetic.joinLongs(op, left, right));
            }
        }

        private void push(long value) {
            if (height >= STACK_MOST) {
                reason = STACK_FULL;
                return;
            }
            stack[height] = value;
            height++;
        }

        private long pop() {
            height--;
            return stack[height];
        }
    }

    /** What the numeric instructions answer, each under the name that it has for i32. */
    private static final class Arithmetic {
        private static final int BY_ZERO = 4;
        private static final int QUOTIENT_TOO_GREAT = 5;

        static final long LEAST_INT = -1L << 31;
        static final long LEAST_LONG = -1L << 63;

        /** The order without signs: with the highest bits turned over it is the order with signs. */
        private static boolean isBelow(long a, long b) {
            return (a ^ LEAST_LONG) < (b ^ LEAST_LONG);
        }

        /** An i32 with its sign in all 64 bits keeps its place in both orders, so this serves i64 and i32. */
        static boolean compares(int op, long a, long b) {
            switch (op) {
                case Op.EQZ:
                case Op.EQ:
                    return a == b;
                case Op.NE:
                    return a != b;
                case Op.LT_S:
                    return a < b;
                case Op.LT_U:
                    return isBelow(a, b);
                case Op.GT_S:
                    return a > b;
                case Op.GT_U:
                    return isBelow(b, a);
                case Op.LE_S:
                    return a <= b;
                case Op.LE_U:
                    return !isBelow(b, a);
                case Op.GE_S:
                    return a >= b;
                default:
                    return !isBelow(a, b);
            }
        }

        /** Why the instruction can't be done, 0 if it can. */
        static int reasonAgainst(int op, long a, long b, long least) {
            if (op < Op.DIV_S || op > Op.REM_U) {
                return 0;
            }
            if (b == 0) {
                return BY_ZERO;
            }
            return op == Op.DIV_S && a == least && b == -1 ? QUOTIENT_TOO_GREAT : 0;
        }

        static int countInt(int op, int a) {
            switch (op) {
                case Op.CLZ:
                    return Integer.bitCount(~(int) filled(a));
                case Op.CTZ:
                    return Integer.bitCount(~a & a - 1);
                default:
                    return Integer.bitCount(a);
            }
        }

        static int countLong(int op, long a) {
            switch (op) {
                case Op.CLZ:
                    return Long.bitCount(~filled(a));
                case Op.CTZ:
                    return Long.bitCount(~a & a - 1);
                default:
                    return Long.bitCount(a);
            }
        }

        /** With every bit below the highest one set, too. */
        private static long filled(long a) {
            long bits = a;
            for (int shift = 1; shift < 64; shift *= 2) {
                bits |= bits >>> shift;
            }
            return bits;
        }

        static int joinInts(int op, int a, int b) {
            switch (op) {
                case Op.DIV_U:
                case Op.REM_U:
                    return (int) joinLongs(op, a & LOW_32, b & LOW_32);
                case Op.SHL:
                    return a << b;
                case Op.SHR_S:
                    return a >> b;
                case Op.SHR_U:
                    return a >>> b;
                case Op.ROTL:
                    return a << b | a >>> -b;
                case Op.ROTR:
                    return a >>> b | a << -b;
                default:
                    // For all others the lower half of what i64 answers is what i32 answers.
                    return (int) joinLongs(op, a, b);
            }
        }

        /** The quotient without signs, by a division that knows them. */
        private static long quotient(long a, long b) {
            if (b == 0) {
                return 0;
            }
            if (b < 0) {
                // Twice such a b has more than 64 bits.
                return isBelow(a, b) ? 0 : 1;
            }
            // Half of a has no sign; twice its quotient is the one asked for, or one less.
            long near = (a >>> 1) / b << 1;
            return isBelow(a - near * b, b) ? near : near + 1;
        }

        static long joinLongs(int op, long a, long b) {
            switch (op) {
                case Op.ADD:
                    return a + b;
                case Op.SUB:
                    return a - b;
                case Op.MUL:
                    return a * b;
                case Op.DIV_S:
                    return b == 0 ? 0 : a / b;
                case Op.DIV_U:
                    return quotient(a, b);
                case Op.REM_S:
                    return b == 0 ? 0 : a % b;
                case Op.REM_U:
                    return a - quotient(a, b) * b;
                case Op.AND:
                    return a & b;
                case Op.OR:
                    return a | b;
                case Op.XOR:
                    return a ^ b;
                case Op.SHL:
                    return a << b;
                case Op.SHR_S:
                    return a >> b;
                case Op.SHR_U:
                    return a >>> b;
                case Op.ROTL:
                    return a << b | a >>> -b;
                default:
                    return a >>> b | a << -b;
            }
        }
    }
}
