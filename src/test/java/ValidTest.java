/** Promise 4: what is VALID, and what is not (reason 2). */
public final class ValidTest {
    private static final String NOTHING = Build.NONE_TO_NONE;

    public static void main(String[] args) {
        outsideOfCodes();
        indices();
        simpleTypes();
        operandTypes();
        blocks();
        branches();
        tables();
        unreachable();
        access();
        Due.finish();
    }

    /** A function of the type, beside one of i32 to i64, with a global that changes and one that stays. */
    private static void codeIs(String type, String code, int reason) {
        Use.read(type + ": " + code, new Build().type(type).type(Build.I32_TO_I64).function(0, code)
            .function(1, "00 42 00 0B").memory("00 01").global("7F 01 41 00 0B").global("7E 00 42 00 0B").bytes(),
            reason);
    }

    private static void outsideOfCodes() {
        Use.read("a type that is not there", new Build().type(NOTHING).function(1, "00 0B").bytes(), 2);
        Use.read("a function without types", new Build().function(0, "00 0B").bytes(), 2);
        Use.read("a function without types that can't go on", new Build().function(0, "00 00 0B").bytes(), 2);
        memoryIs("00 00", 0);
        memoryIs("00 02", 0);
        memoryIs("00 03", 2);
        memoryIs("01 02 02", 0);
        memoryIs("01 02 01", 2);
        memoryIs("01 03 04", 2);
        memoryIs("01 00 00", 0);
        memoryIs("01 00 80 80 04", 0);
        memoryIs("01 00 81 80 04", 2);
        Use.read("i32 from i64.const", new Build().global("7F 00 42 00 0B").bytes(), 2);
        Use.read("i64 from i32.const", new Build().global("7E 00 41 00 0B").bytes(), 2);
        Use.read("i64 from i64.const", new Build().global("7E 00 42 00 0B").bytes(), 0);
        exportsAre("one of each", base().export("f", 0, 0).export("m", 2, 0).export("g", 3, 0), 0);
        exportsAre("the same thing twice", base().export("f", 0, 0).export("h", 0, 0), 0);
        exportsAre("the same name twice", base().export("f", 0, 0).export("f", 0, 0), 2);
        exportsAre("the same name of two kinds", base().export("f", 0, 0).export("a", 3, 0).export("f", 2, 0), 2);
        exportsAre("the empty name twice", base().export("", 0, 0).export("", 3, 0), 2);
        exportsAre("a name that begins another", base().export("ab", 0, 0).export("a", 0, 0).export("", 0, 0), 0);
        exportsAre("function 1 of 1", base().export("f", 0, 1), 2);
        exportsAre("memory 1", base().export("m", 2, 1), 2);
        exportsAre("global 1 of 1", base().export("g", 3, 1), 2);
        exportsAre("a memory that is not there",
            new Build().type(NOTHING).function(0, "00 0B").export("m", 2, 0), 2);
        Use.read("a memory that is not in its section",
            Build.hex(Build.HEAD + "05 01 00" + Build.section(7, "01 01 6D 02 00")), 2);
    }

    private static Build base() {
        return new Build().type(NOTHING).function(0, "00 0B").memory("00 01").global("7F 00 41 00 0B");
    }

    private static void exportsAre(String what, Build build, int reason) {
        Use.read(what, build.bytes(), reason);
    }

    private static void memoryIs(String limits, int reason) {
        Use.read("memory " + limits, new Build().memory(limits).bytes(), reason);
    }

    private static void indices() {
        codeIs(NOTHING, "00 41 00 10 01 1A 0B", 0);
        codeIs(NOTHING, "00 41 00 10 02 1A 0B", 2);
        codeIs(NOTHING, "00 10 00 0B", 0);
        codeIs("60 02 7F 7E 00", "01 01 7E 20 00 21 00 20 01 21 02 0B", 0);
        codeIs("60 02 7F 7E 00", "01 01 7E 20 03 1A 0B", 2);
        codeIs("60 02 7F 7E 00", "01 01 7E 20 00 21 02 0B", 2);
        codeIs("60 02 7F 7E 00", "02 00 7E 01 7F 20 00 22 02 1A 0B", 0);
        codeIs(NOTHING, "00 23 00 24 00 0B", 0);
        codeIs(NOTHING, "00 23 01 1A 0B", 0);
        codeIs(NOTHING, "00 23 02 1A 0B", 2);
        codeIs(NOTHING, "00 42 00 24 00 0B", 2);
        codeIs(NOTHING, "00 42 00 24 01 0B", 2);
        codeIs(NOTHING, "00 41 00 24 02 0B", 2);
        codeIs(NOTHING, "00 00 24 01 0B", 2);
        codeIs(NOTHING, "00 00 24 00 0B", 0);
        codeIs(NOTHING, "00 00 24 02 0B", 2);
        codeIs(NOTHING, "00 00 23 02 1A 0B", 2);
        codeIs(NOTHING, "00 0C 00 0B", 0);
        codeIs(NOTHING, "00 0C 01 0B", 2);
        codeIs(NOTHING, "00 02 40 0C 01 0B 0B", 0);
        codeIs(NOTHING, "00 02 40 0C 02 0B 0B", 2);
        codeIs(NOTHING, "00 41 00 0D 01 0B", 2);
        codeIs(NOTHING, "00 00 0C 01 0B", 2);
    }

    private static void simpleTypes() {
        codeIs(NOTHING, "00 0B", 0);
        codeIs(NOTHING, "00 41 00 0B", 2);
        codeIs(NOTHING, "00 1A 0B", 2);
        codeIs(NOTHING, "00 41 00 1A 0B", 0);
        codeIs(NOTHING, "00 42 00 1A 0B", 0);
        codeIs(Build.NONE_TO_I32, "00 0B", 2);
        codeIs(Build.NONE_TO_I32, "00 41 00 0B", 0);
        codeIs(Build.NONE_TO_I32, "00 42 00 0B", 2);
        codeIs(Build.NONE_TO_I32, "00 41 00 41 00 0B", 2);
        codeIs(Build.NONE_TO_I64, "00 42 00 0B", 0);
        codeIs(Build.NONE_TO_I64, "00 41 00 10 01 0B", 0);
        codeIs(Build.NONE_TO_I64, "00 42 00 10 01 0B", 2);
        codeIs(Build.NONE_TO_I64, "00 10 01 0B", 2);
        codeIs("60 02 7F 7E 01 7F", "00 41 00 42 00 10 00 0B", 0);
        codeIs("60 02 7F 7E 01 7F", "00 42 00 41 00 10 00 0B", 2);
        codeIs(NOTHING, "00 41 00 41 01 41 02 1B 1A 0B", 0);
        codeIs(NOTHING, "00 42 00 42 01 41 02 1B 1A 0B", 0);
        codeIs(NOTHING, "00 41 00 42 01 41 02 1B 1A 0B", 2);
        codeIs(NOTHING, "00 41 00 41 01 42 02 1B 1A 0B", 2);
        codeIs(NOTHING, "00 41 01 41 02 1B 1A 0B", 2);
        codeIs(Build.NONE_TO_I32, "00 41 00 0F 0B", 0);
        codeIs(Build.NONE_TO_I32, "00 42 00 0F 0B", 2);
        codeIs(Build.NONE_TO_I32, "00 0F 0B", 2);
        codeIs(Build.NONE_TO_I32, "00 42 00 41 00 0F 0B", 0);
        codeIs("60 01 7F 01 7F", "00 20 00 22 00 0B", 0);
        codeIs("60 01 7E 01 7F", "00 20 00 22 00 0B", 2);
        codeIs("60 01 7E 01 7F", "00 41 00 22 00 0B", 2);
    }

    private static void operandTypes() {
        for (int op = 0x45; op <= 0xAD; op++) {
            if (op <= 0x5A || op >= 0x67 && op <= 0x8A || op == 0xA7 || op >= 0xAC) {
                boolean one = op == 0x45 || op == 0x50 || op >= 0x67 && op <= 0x69 || op >= 0x79 && op <= 0x7B
                    || op >= 0xA7;
                boolean takesLong = op >= 0x50 && op <= 0x5A || op >= 0x79 && op <= 0x8A || op == 0xA7;
                boolean givesLong = op >= 0x79 && op <= 0x8A || op >= 0xAC;
                operandsAre(op, one, takesLong ? "42 00" : "41 00", takesLong ? "41 00" : "42 00", givesLong);
            }
        }
    }

    private static void operandsAre(int op, boolean one, String good, String bad, boolean givesLong) {
        String rightType = givesLong ? Build.NONE_TO_I64 : Build.NONE_TO_I32;
        String wrongType = givesLong ? Build.NONE_TO_I32 : Build.NONE_TO_I64;
        String tail = String.format(" %02X 0B", op);
        String all = one ? good : good + good;
        codeIs(rightType, "00" + all + tail, 0);
        codeIs(wrongType, "00" + all + tail, 2);
        codeIs(rightType, "00" + good + all + tail, 2);
        codeIs(rightType, "00" + (one ? bad : good + bad) + tail, 2);
        codeIs(rightType, "00" + (one ? "" : bad + good) + tail, 2);
        codeIs(rightType, "00" + (one ? "" : good) + tail, 2);
    }

    private static void blocks() {
        codeIs(NOTHING, "00 02 40 0B 0B", 0);
        codeIs(NOTHING, "00 02 7F 0B 1A 0B", 2);
        codeIs(NOTHING, "00 02 7F 41 00 0B 1A 0B", 0);
        codeIs(NOTHING, "00 02 7F 42 00 0B 1A 0B", 2);
        codeIs(NOTHING, "00 02 40 41 00 0B 1A 0B", 2);
        codeIs(NOTHING, "00 02 7F 41 00 41 00 0B 1A 0B", 2);
        codeIs(NOTHING, "00 02 40 00 0B 02 40 1A 0B 0B", 2);
        // What lies below a block is not the block's.
        codeIs(NOTHING, "00 41 00 02 40 1A 0B 0B", 2);
        codeIs(NOTHING, "00 41 00 02 7F 0B 1A 1A 0B", 2);
        codeIs(NOTHING, "00 41 00 03 40 1A 0B 0B", 2);
        codeIs(NOTHING, "00 41 00 04 40 0B 0B", 0);
        codeIs(NOTHING, "00 42 00 04 40 0B 0B", 2);
        codeIs(NOTHING, "00 04 40 0B 0B", 2);
        codeIs(NOTHING, "00 41 00 04 7F 41 00 05 41 00 0B 1A 0B", 0);
        codeIs(NOTHING, "00 41 00 04 7F 41 00 05 42 00 0B 1A 0B", 2);
        codeIs(NOTHING, "00 41 00 04 7F 42 00 05 41 00 0B 1A 0B", 2);
        codeIs(NOTHING, "00 41 00 04 7F 41 00 05 0B 1A 0B", 2);
        codeIs(NOTHING, "00 41 00 04 7F 05 41 00 0B 1A 0B", 2);
        codeIs(NOTHING, "00 41 00 04 7F 41 00 0B 1A 0B", 2);
        codeIs(NOTHING, "00 41 00 04 7F 00 0B 1A 0B", 2);
        codeIs(NOTHING, "00 41 00 04 40 41 00 05 1A 0B 0B", 2);
        codeIs(NOTHING, "00 41 00 04 40 00 0B 0B", 0);
    }

    private static void branches() {
        codeIs(NOTHING, "00 02 7F 41 00 0C 00 0B 1A 0B", 0);
        codeIs(NOTHING, "00 02 7F 42 00 0C 00 0B 1A 0B", 2);
        codeIs(NOTHING, "00 02 7F 0C 00 0B 1A 0B", 2);
        codeIs(NOTHING, "00 02 7F 42 00 41 00 0C 00 0B 1A 0B", 0);
        codeIs(NOTHING, "00 03 7F 0C 00 0B 1A 0B", 0);
        codeIs(NOTHING, "00 03 7F 41 00 0D 00 41 00 0B 1A 0B", 0);
        codeIs(NOTHING, "00 02 7F 41 00 41 00 0D 00 0B 1A 0B", 0);
        codeIs(NOTHING, "00 02 7F 41 00 42 00 0D 00 0B 1A 0B", 2);
        codeIs(NOTHING, "00 02 7F 42 00 41 00 0D 00 0B 1A 0B", 2);
        codeIs(NOTHING, "00 02 7F 41 00 0D 00 41 00 0B 1A 0B", 2);
        codeIs(Build.NONE_TO_I64, "00 42 00 0C 00 0B", 0);
        codeIs(Build.NONE_TO_I64, "00 41 00 0C 00 0B", 2);
        codeIs(Build.NONE_TO_I64, "00 02 40 42 00 0C 01 0B 42 00 0B", 0);
    }

    private static void tables() {
        codeIs(NOTHING, "00 02 40 41 00 0E 01 00 01 0B 0B", 0);
        codeIs(NOTHING, "00 02 40 42 00 0E 01 00 01 0B 0B", 2);
        codeIs(NOTHING, "00 02 40 41 00 0E 01 02 01 0B 0B", 2);
        codeIs(NOTHING, "00 02 40 41 00 0E 01 01 02 0B 0B", 2);
        codeIs(NOTHING, "00 02 7F 41 00 41 00 0E 01 00 01 0B 1A 0B", 2);
        codeIs(Build.NONE_TO_I32, "00 02 7F 41 00 41 00 0E 01 00 01 0B 0B", 0);
        codeIs(Build.NONE_TO_I64, "00 02 7F 41 00 41 00 0E 01 00 01 0B 1A 42 00 0B", 2);
        codeIs(Build.NONE_TO_I32, "00 02 7F 42 00 41 00 0E 01 00 01 0B 0B", 2);
        codeIs(Build.NONE_TO_I32, "00 02 7F 41 00 0E 01 00 01 0B 0B", 2);
        // All labels are of one type, also where nothing can be reached.
        codeIs(Build.NONE_TO_I64, "00 02 7F 00 0E 01 00 01 0B 1A 42 00 0B", 2);
        codeIs(Build.NONE_TO_I32, "00 02 7F 00 0E 01 00 01 0B 0B", 0);
        codeIs(NOTHING, "00 03 7F 02 40 41 00 0E 01 00 01 0B 41 00 0B 1A 0B", 0);
    }

    private static void unreachable() {
        codeIs(Build.NONE_TO_I32, "00 00 0B", 0);
        codeIs(Build.NONE_TO_I32, "00 00 6A 0B", 0);
        codeIs(Build.NONE_TO_I32, "00 00 7C 0B", 2);
        codeIs(Build.NONE_TO_I32, "00 00 42 00 0B", 2);
        codeIs(Build.NONE_TO_I32, "00 00 41 00 6A 0B", 0);
        codeIs(Build.NONE_TO_I32, "00 00 42 00 6A 0B", 2);
        codeIs(Build.NONE_TO_I32, "00 00 41 00 41 00 0B", 2);
        codeIs(NOTHING, "00 00 41 00 0B", 2);
        codeIs(NOTHING, "00 00 1A 1A 0B", 0);
        codeIs(Build.NONE_TO_I32, "00 0C 00 0B", 2);
        codeIs(Build.NONE_TO_I32, "00 41 00 0C 00 0B", 0);
        codeIs(Build.NONE_TO_I32, "00 41 00 0F 42 00 0B", 2);
        codeIs(Build.NONE_TO_I32, "00 41 00 41 00 0E 00 00 6A 0B", 0);
        // Select takes what type is known.
        codeIs(Build.NONE_TO_I32, "00 00 1B 0B", 0);
        codeIs(Build.NONE_TO_I64, "00 00 1B 0B", 0);
        codeIs(Build.NONE_TO_I32, "00 00 1B 1B 6A 0B", 0);
        codeIs(Build.NONE_TO_I64, "00 00 42 00 41 00 1B 0B", 0);
        codeIs(Build.NONE_TO_I32, "00 00 42 00 41 00 1B 0B", 2);
        codeIs(Build.NONE_TO_I32, "00 00 42 00 41 00 41 00 1B 0B", 2);
        codeIs(Build.NONE_TO_I32, "00 00 42 00 1B 0B", 2);
        codeIs(Build.NONE_TO_I64, "00 00 1B 50 0B", 2);
        codeIs(Build.NONE_TO_I32, "00 00 1B 50 0B", 0);
        // A branch that may be passed leaves a value of the label's type.
        codeIs(Build.NONE_TO_I32, "00 00 0D 00 0B", 0);
        codeIs(Build.NONE_TO_I64, "00 00 0D 00 A7 AC 0B", 0);
        codeIs(Build.NONE_TO_I32, "00 00 0D 00 A7 0B", 2);
        codeIs(Build.NONE_TO_I32, "00 00 22 00 0B", 2);
        codeIs(Build.I64_TO_I32, "00 00 22 00 A7 0B", 0);
        codeIs(Build.I64_TO_I32, "00 00 22 00 45 0B", 2);
        // A block that begins where nothing can be reached is looked at like any other.
        codeIs(NOTHING, "00 00 02 40 1A 0B 0B", 2);
        codeIs(NOTHING, "00 00 02 7F 0B 1A 0B", 2);
        codeIs(NOTHING, "00 00 04 7F 00 05 41 00 0B 1A 0B", 0);
        codeIs(NOTHING, "00 41 00 04 7F 00 05 00 0B 1A 0B", 0);
        codeIs(NOTHING, "00 41 00 04 40 00 05 1A 0B 0B", 2);
        // Behind the end of the block all is as it was before it.
        codeIs(Build.NONE_TO_I32, "00 02 40 00 0B 0B", 2);
        codeIs(Build.NONE_TO_I32, "00 02 40 00 0B 41 00 0B", 0);
        codeIs(Build.NONE_TO_I32, "00 02 7F 00 0B 0B", 0);
        codeIs(NOTHING, "00 00 20 00 1A 0B", 2);
        codeIs(NOTHING, "00 00 10 07 0B", 2);
        codeIs(NOTHING, "00 00 10 01 1A 0B", 0);
        codeIs(NOTHING, "00 00 10 01 45 1A 0B", 2);
    }

    private static void access() {
        String[][] most = {
            {"28", "41 00", "", "2"}, {"29", "41 00", "", "3"}, {"2C", "41 00", "", "0"}, {"2D", "41 00", "", "0"},
            {"36", "41 00", "41 00", "2"}, {"37", "41 00", "42 00", "3"}, {"3A", "41 00", "41 00", "0"}
        };
        for (String[] row : most) {
            int natural = Integer.parseInt(row[3]);
            String drop = row[2].isEmpty() ? "1A" : "";
            for (int a = 0; a < 70; a++) {
                codeIs(NOTHING, "00" + row[1] + row[2] + row[0] + Build.number(a) + "00" + drop + "0B",
                    a <= natural ? 0 : 2);
            }
            String code = "00" + row[1] + row[2] + row[0] + "00 00" + drop + "0B";
            Use.read("without a memory: " + code, new Build().type(NOTHING).function(0, code).bytes(), 2);
            String dead = "00 00" + row[0] + "00 00 0B";
            Use.read("without a memory: " + dead, new Build().type(NOTHING).function(0, dead).bytes(), 2);
            codeIs(NOTHING, "00 42 00" + row[2] + row[0] + "00 00" + drop + "0B", 2);
        }
        codeIs(Build.NONE_TO_I32, "00 41 00 28 00 00 0B", 0);
        codeIs(Build.NONE_TO_I64, "00 41 00 29 00 00 0B", 0);
        codeIs(Build.NONE_TO_I32, "00 41 00 29 00 00 0B", 2);
        codeIs(Build.NONE_TO_I64, "00 41 00 2C 00 00 0B", 2);
        codeIs(NOTHING, "00 41 00 42 00 36 00 00 0B", 2);
        codeIs(NOTHING, "00 41 00 41 00 37 00 00 0B", 2);
        codeIs(NOTHING, "00 41 00 42 00 3A 00 00 0B", 2);
        codeIs(Build.NONE_TO_I32, "00 3F 00 0B", 0);
        codeIs(Build.NONE_TO_I32, "00 41 00 40 00 0B", 0);
        codeIs(Build.NONE_TO_I32, "00 42 00 40 00 0B", 2);
        codeIs(Build.NONE_TO_I32, "00 40 00 0B", 2);
        Use.read("memory.size without a memory",
            new Build().type(Build.NONE_TO_I32).function(0, "00 3F 00 0B").bytes(), 2);
        Use.read("memory.grow without a memory",
            new Build().type(Build.NONE_TO_I32).function(0, "00 41 00 40 00 0B").bytes(), 2);
        Use.read("memory.size with a section of no memory", Build.hex(Build.HEAD + Build.section(1, "01 60 00 01 7F")
            + Build.section(3, "01 00") + "05 01 00" + Build.section(10, "01" + Build.sized("00 3F 00 0B"))), 2);
    }
}
