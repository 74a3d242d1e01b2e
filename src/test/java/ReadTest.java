/** Promise 4: what is READ, and what is not (reason 1). */
public final class ReadTest {
    private static final String TYPES = Build.section(1, "01 60 00 00");
    private static final String FUNCTIONS = Build.section(3, "01 00");
    private static final String CODES = Build.section(10, "01 02 00 0B");
    private static final String NOTHING = Build.NONE_TO_NONE;

    public static void main(String[] args) {
        head();
        sections();
        customSections();
        numbers();
        types();
        functions();
        memories();
        globals();
        exports();
        locals();
        instructions();
        blocks();
        immediates();
        readComesBeforeValid();
        Due.finish();
    }

    private static void sectionsAre(String what, String sections, int reason) {
        Use.read(what, Build.hex(Build.HEAD + sections), reason);
    }

    private static void codeIs(String what, String code, int reason) {
        Use.read(what, new Build().type(NOTHING).function(0, code).memory("00 01").bytes(), reason);
    }

    private static void head() {
        byte[] whole = Build.hex(Build.HEAD);
        Use.read("head alone", whole, 0);
        for (int n = 0; n < whole.length; n++) {
            Use.read(n + " bytes of the head", java.util.Arrays.copyOf(whole, n), 1);
            byte[] other = whole.clone();
            other[n] ^= 1;
            Use.read("head with another byte " + n, other, 1);
        }
    }

    private static void sections() {
        sectionsAre("types, functions, codes", TYPES + FUNCTIONS + CODES, 0);
        sectionsAre("all sections, empty", "01 01 00 03 01 00 05 01 00 06 01 00 07 01 00 0A 01 00", 0);
        for (int id : new int[] {2, 4, 8, 9, 11, 12, 13, 0x7F, 0x80, 0xFF}) {
            sectionsAre("section " + id, String.format("%02X 01 00", id), 1);
        }
        sectionsAre("types twice", "01 01 00 01 01 00", 1);
        sectionsAre("codes twice", TYPES + FUNCTIONS + CODES + CODES, 1);
        sectionsAre("functions before types", FUNCTIONS + TYPES + CODES, 1);
        sectionsAre("globals before memory", "06 01 00 05 01 00", 1);
        sectionsAre("a section without its size", "01", 1);
        sectionsAre("a section that ends too early", "01 02 00", 1);
        sectionsAre("a section that is longer than what is in it", "01 02 00 00", 1);
        sectionsAre("a section that is shorter than what is in it", "01 03 01 60 00 00", 1);
        sectionsAre("an empty section", "01 00", 1);
        sectionsAre("a section with another in it", "01 04 00 00 01 00", 1);
        for (int id : new int[] {2, 4, 8, 9, 11, 12}) {
            sectionsAre("an empty section " + id, String.format("%02X 00", id), 1);
        }
        sectionsAre("a size in five bytes", "01 81 80 80 80 00 00", 0);
    }

    private static void customSections() {
        sectionsAre("custom everywhere", "00 01 00" + TYPES + "00 02 01 41" + FUNCTIONS + "00 04 00 01 02 03"
            + CODES + "00 01 00", 0);
        sectionsAre("custom twice at the end", "00 01 00 00 01 00", 0);
        sectionsAre("custom without a name's length", "00 00", 1);
        sectionsAre("custom with a name to its end", "00 03 02 41 42", 0);
        sectionsAre("custom with a name beyond its end", "00 03 03 41 42", 1);
        sectionsAre("custom with a name beyond its end, but within the tape", "00 01 01 00 01 00", 1);
        sectionsAre("custom with a name of any bytes", "00 03 02 FF C0", 0);
        sectionsAre("custom with a long name", "00 29 28" + Build.times(40, "41"), 0);
        sectionsAre("custom with a name's length in six bytes", "00 06 80 80 80 80 80 00", 1);
        sectionsAre("custom with the greatest length", "00 05 FF FF FF FF 0F", 1);
        sectionsAre("custom beyond the tape", "00 03 00 41", 1);
        sectionsAre("order goes on behind custom", TYPES + "00 01 00" + TYPES, 1);
    }

    private static void numbers() {
        sectionsAre("a count in two bytes", "01 02 80 00", 0);
        sectionsAre("a count in five bytes", "01 05 80 80 80 80 00", 0);
        sectionsAre("a count in six bytes", "01 06 80 80 80 80 80 00", 1);
        sectionsAre("a fifth byte with other bits", "01 05 80 80 80 80 10", 1);
        sectionsAre("a fifth byte with the highest other bit", "01 05 80 80 80 80 40", 1);
        sectionsAre("a count that is cut off", "01 01 80", 1);
        codeIs("i32.const in five bytes", "00 41 80 80 80 80 00 1A 0B", 0);
        codeIs("i32.const in six bytes", "00 41 80 80 80 80 80 00 1A 0B", 1);
        codeIs("i32.const, greatest", "00 41 FF FF FF FF 07 1A 0B", 0);
        codeIs("i32.const, one more", "00 41 80 80 80 80 08 1A 0B", 1);
        codeIs("i32.const, least", "00 41 80 80 80 80 78 1A 0B", 0);
        codeIs("i32.const, sign without its bits", "00 41 FF FF FF FF 0F 1A 0B", 1);
        codeIs("i32.const, one less", "00 41 FF FF FF FF 77 1A 0B", 1);
        codeIs("i32.const, -1 in five bytes", "00 41 FF FF FF FF 7F 1A 0B", 0);
        codeIs("i64.const in ten bytes", "00 42 80 80 80 80 80 80 80 80 80 00 1A 0B", 0);
        codeIs("i64.const in eleven bytes", "00 42 80 80 80 80 80 80 80 80 80 80 00 1A 0B", 1);
        codeIs("i64.const, least", "00 42 80 80 80 80 80 80 80 80 80 7F 1A 0B", 0);
        codeIs("i64.const, tenth byte 1", "00 42 80 80 80 80 80 80 80 80 80 01 1A 0B", 1);
        codeIs("i64.const, tenth byte 7E", "00 42 80 80 80 80 80 80 80 80 80 7E 1A 0B", 1);
        codeIs("i64.const, tenth byte 40", "00 42 80 80 80 80 80 80 80 80 80 40 1A 0B", 1);
    }

    private static void types() {
        sectionsAre("20 types", Build.section(1, "14" + Build.times(20, NOTHING)), 0);
        sectionsAre("21 types", Build.section(1, "15" + Build.times(21, NOTHING)), 1);
        sectionsAre("8 parameters", Build.section(1, "01 60 08" + Build.times(8, "7E") + "00"), 0);
        sectionsAre("9 parameters", Build.section(1, "01 60 09" + Build.times(9, "7F") + "00"), 1);
        sectionsAre("1 result", Build.section(1, "01 60 00 01 7E"), 0);
        sectionsAre("2 results", Build.section(1, "01 60 00 02 7F 7F"), 1);
        sectionsAre("2 results that are not there", Build.section(1, "02 60 00 02 60 00 00"), 1);
        sectionsAre("no function type", Build.section(1, "01 5F 00 00"), 1);
        for (int type : new int[] {0x7D, 0x7C, 0x7B, 0x70, 0x40, 0x00, 0x80, 0xFF}) {
            sectionsAre("parameter of type " + type, Build.section(1, String.format("01 60 01 %02X 00", type)), 1);
            sectionsAre("result of type " + type, Build.section(1, String.format("01 60 00 01 %02X", type)), 1);
        }
    }

    private static void functions() {
        Build thirty = new Build().type(NOTHING);
        for (int f = 0; f < 30; f++) {
            thirty.function(0, "00 0B");
        }
        Use.read("30 functions", thirty.bytes(), 0);
        Use.read("31 functions", thirty.function(0, "00 0B").bytes(), 1);
        sectionsAre("a function without codes", TYPES + FUNCTIONS, 1);
        sectionsAre("no functions and no codes", TYPES + "03 01 00 0A 01 00", 0);
        sectionsAre("no functions and no section of codes", TYPES + "03 01 00", 0);
        sectionsAre("a code without functions", TYPES + CODES, 1);
        sectionsAre("two functions, one code", TYPES + Build.section(3, "02 00 00") + CODES, 1);
        sectionsAre("one function, two codes", TYPES + FUNCTIONS + Build.section(10, "02 02 00 0B 02 00 0B"), 1);
        sectionsAre("a type's index of 2^31 - 1", TYPES + Build.section(3, "01 FF FF FF FF 07") + CODES, 2);
        sectionsAre("a type's index of 2^31", TYPES + Build.section(3, "01 80 80 80 80 08") + CODES, 1);
    }

    private static void memories() {
        sectionsAre("no memory in its section", "05 01 00", 0);
        sectionsAre("one memory", "05 03 01 00 01", 0);
        sectionsAre("one memory with its most", "05 04 01 01 01 02", 0);
        sectionsAre("two memories", "05 05 02 00 01 00 01", 1);
        sectionsAre("two memories that are not there", "05 01 02", 1);
        sectionsAre("flag 2", "05 04 01 02 01 02", 1);
        sectionsAre("flag 3", "05 04 01 03 01 02", 1);
        sectionsAre("flag in two bytes", "05 04 01 80 00 01", 1);
        sectionsAre("flag 0 with a most", "05 04 01 00 01 02", 1);
        sectionsAre("flag 1 without a most", "05 03 01 01 01", 1);
        sectionsAre("pages up to 2^32 - 1", "05 07 01 00 FF FF FF FF 0F", 2);
        sectionsAre("pages of 2^32", "05 07 01 00 80 80 80 80 10", 1);
        sectionsAre("most up to 2^32 - 1", "05 08 01 01 00 FF FF FF FF 0F", 2);
        sectionsAre("most of 2^32", "05 08 01 01 00 80 80 80 80 10", 1);
    }

    private static void globals() {
        String i32 = "7F 01 41 05 0B";
        sectionsAre("20 globals", Build.section(6, "14" + Build.times(20, i32)), 0);
        sectionsAre("21 globals", Build.section(6, "15" + Build.times(21, i32)), 1);
        sectionsAre("a global that stays", Build.section(6, "01 7E 00 42 05 0B"), 0);
        sectionsAre("a global with flag 2", Build.section(6, "01 7F 02 41 05 0B"), 1);
        sectionsAre("a global of f32", Build.section(6, "01 7D 01 43 00 00 00 00 0B"), 1);
        sectionsAre("a global from another", Build.section(6, "02" + i32 + "7F 00 23 00 0B"), 1);
        sectionsAre("a global without a constant", Build.section(6, "01 7F 00 0B"), 1);
        sectionsAre("a global of nop", Build.section(6, "01 7F 00 01 0B"), 1);
        sectionsAre("a global of i64, least", Build.section(6, "01 7E 00 42" + Build.times(9, "80") + "7F 0B"), 0);
        sectionsAre("a global of i64, one less", Build.section(6, "01 7E 00 42" + Build.times(9, "FF") + "7E 0B"), 1);
        sectionsAre("a global of i64, one more", Build.section(6, "01 7E 00 42" + Build.times(9, "80") + "01 0B"), 1);
        sectionsAre("a global without end", Build.section(6, "01 7F 00 41 05 01"), 1);
        sectionsAre("a global with more before end", Build.section(6, "01 7F 00 41 05 01 0B"), 1);
        sectionsAre("a global's constant too long", Build.section(6, "01 7F 00 41 80 80 80 80 08 0B"), 1);
    }

    private static void exports() {
        StringBuilder forty = new StringBuilder();
        for (int k = 0; k < 40; k++) {
            forty.append(String.format("01 %02X 00 00 ", k));
        }
        String one = TYPES + FUNCTIONS;
        sectionsAre("40 exports", one + Build.section(7, "28" + forty) + CODES, 0);
        sectionsAre("41 exports", one + Build.section(7, "29" + forty + "01 28 00 00") + CODES, 1);
        sectionsAre("a name of 30", one + Build.section(7, "01 1E" + Build.times(30, "78") + "00 00") + CODES, 0);
        sectionsAre("a name of 31", one + Build.section(7, "01 1F" + Build.times(31, "78") + "00 00") + CODES, 1);
        sectionsAre("the empty name", one + Build.section(7, "01 00 00 00") + CODES, 0);
        sectionsAre("a name of any bytes", one + Build.section(7, "01 02 FF 80 00 00") + CODES, 0);
        sectionsAre("an export of a table", one + Build.section(7, "01 01 61 01 00") + CODES, 1);
        sectionsAre("an export of kind 4", one + Build.section(7, "01 01 61 04 00") + CODES, 1);
        sectionsAre("an index of 2^31 - 1", one + Build.section(7, "01 01 61 00 FF FF FF FF 07") + CODES, 2);
        sectionsAre("an index of 2^31", one + Build.section(7, "01 01 61 00 80 80 80 80 08") + CODES, 1);
    }

    private static void locals() {
        codeIs("60 locals in a run", "01 3C 7F 0B", 0);
        codeIs("61 locals in a run", "01 3D 7F 0B", 1);
        codeIs("60 runs", "3C" + Build.times(60, "01 7E") + "0B", 0);
        codeIs("61 runs", "3D" + Build.times(61, "00 7E") + "0B", 1);
        codeIs("60 locals in two runs", "02 1E 7F 1E 7E 0B", 0);
        codeIs("61 locals in two runs", "02 1E 7F 1F 7E 0B", 1);
        codeIs("an empty run behind 60 locals", "02 3C 7F 00 7E 0B", 0);
        codeIs("a run of 2^32 - 1", "01 FF FF FF FF 0F 7F 0B", 1);
        codeIs("locals of f64", "01 01 7C 0B", 1);
        codeIs("no locals of f64", "01 00 7C 0B", 1);
    }

    private static final int[] KNOWN = {
        0x00, 0x05, 0x0B, 0x10, 0x1A, 0x1B, 0x20, 0x24, 0x28, 0x29, 0x2C, 0x2D, 0x36, 0x37, 0x3A, 0x3A, 0x3F, 0x42,
        0x45, 0x5A, 0x67, 0x8A, 0xA7, 0xA7, 0xAC, 0xAD
    };

    private static void instructions() {
        for (int op = 0; op < 256; op++) {
            boolean known = false;
            for (int k = 0; k < KNOWN.length; k += 2) {
                known |= op >= KNOWN[k] && op <= KNOWN[k + 1];
            }
            if (!known) {
                codeIs("instruction " + op, String.format("00 00 %02X 0B", op), 1);
                codeIs("instruction " + op + " with zeros", String.format("00 00 %02X 00 00 0B", op), 1);
            }
        }
        // All that has nothing behind it, where nothing can be reached.
        for (int op = 0x45; op <= 0xAD; op++) {
            if (op <= 0x5A || op >= 0x67 && op <= 0x8A || op == 0xA7 || op >= 0xAC) {
                codeIs("instruction " + op, String.format("00 00 %02X 1A 0B", op), 0);
            }
        }
        codeIs("a code without end", "00 01", 1);
        codeIs("a code that ends with an unknown instruction", "00 FF", 1);
        sectionsAre("a code with another in it",
            TYPES + Build.section(3, "02 00 00") + Build.section(10, "02 05 00 0B 02 00 0B"), 1);
        codeIs("a code without anything", "", 1);
        codeIs("a code that is cut in an instruction", "00 41", 1);
        codeIs("a code with more behind its end", "00 0B 01", 1);
        codeIs("a code with an end more", "00 0B 0B", 1);
        sectionsAre("a code longer than its size", TYPES + FUNCTIONS + Build.section(10, "01 01 00 0B"), 1);
        sectionsAre("a code beyond its section", TYPES + FUNCTIONS + "0A 03 01 02 00 0B", 1);
    }

    private static void blocks() {
        codeIs("100 blocks open", "00" + Build.times(100, "02 40") + Build.times(101, "0B"), 0);
        codeIs("101 blocks open", "00" + Build.times(101, "02 40") + Build.times(102, "0B"), 1);
        codeIs("101 blocks open, and one end too few", "00" + Build.times(101, "02 40") + Build.times(101, "0B"), 1);
        codeIs("a block of no type that stays open", "00 02 7D 0B", 1);
        codeIs("101 blocks, not all open", "00" + Build.times(100, "02 40") + "0B 03 40" + Build.times(101, "0B"), 0);
        codeIs("a block that stays open", "00 02 40 0B", 1);
        codeIs("a block without its type", "00 02", 1);
        codeIs("a block of i32", "00 02 7F 41 00 0B 1A 0B", 0);
        codeIs("a loop of i64", "00 03 7E 42 00 0B 1A 0B", 0);
        codeIs("a block of f32", "00 02 7D 00 0B 1A 0B", 1);
        codeIs("a block with a type's index", "00 02 00 0B 0B", 1);
        codeIs("if and else", "00 41 00 04 40 05 0B 0B", 0);
        codeIs("if and else without a condition", "00 04 40 05 0B 0B", 2);
        codeIs("else twice", "00 41 00 04 40 05 05 0B 0B", 1);
        codeIs("else in a block", "00 02 40 05 0B 0B", 1);
        codeIs("else in a loop", "00 03 40 05 0B 0B", 1);
        codeIs("else alone", "00 05 0B", 1);
        codeIs("else in a block in an if", "00 41 00 04 40 02 40 05 0B 0B 0B", 1);
        codeIs("else behind a block in an if", "00 41 00 04 40 02 40 0B 05 0B 0B", 0);
        codeIs("else behind its if", "00 41 00 04 40 0B 05 0B", 1);
        codeIs("an if in an else, with an else", "00 41 00 04 40 05 41 00 04 40 05 0B 0B 0B", 0);
    }

    private static void immediates() {
        codeIs("50 labels besides the last", "00 41 00 0E 32" + Build.times(51, "00") + "0B", 0);
        codeIs("51 labels besides the last", "00 41 00 0E 33" + Build.times(52, "00") + "0B", 1);
        codeIs("labels that are cut off", "00 41 00 0E 02 00 00", 1);
        codeIs("a label of 2^31 - 1", "00 0C FF FF FF FF 07 0B", 2);
        codeIs("a label of 2^31", "00 0C 80 80 80 80 08 0B", 1);
        codeIs("a table's label of 2^31", "00 41 00 0E 01 80 80 80 80 08 00 0B", 1);
        codeIs("a table's last label of 2^31", "00 41 00 0E 00 80 80 80 80 08 0B", 1);
        codeIs("a local of 2^31 - 1", "00 20 FF FF FF FF 07 1A 0B", 2);
        codeIs("a local of 2^31", "00 20 80 80 80 80 08 1A 0B", 1);
        codeIs("a global of 2^31", "00 23 80 80 80 80 08 1A 0B", 1);
        codeIs("a function of 2^31", "00 10 80 80 80 80 08 0B", 1);
        codeIs("an alignment of 2^31 - 1", "00 41 00 28 FF FF FF FF 07 00 1A 0B", 2);
        codeIs("an alignment of 2^31", "00 41 00 28 80 80 80 80 08 00 1A 0B", 1);
        codeIs("an offset of 2^32 - 1", "00 41 00 28 00 FF FF FF FF 0F 1A 0B", 0);
        codeIs("an offset of 2^32", "00 41 00 28 00 80 80 80 80 10 1A 0B", 1);
        codeIs("memory.size with 0", "00 3F 00 1A 0B", 0);
        codeIs("memory.size with 1", "00 3F 01 1A 0B", 1);
        codeIs("memory.grow with 1", "00 41 00 40 01 1A 0B", 1);
        codeIs("memory.grow with 0 in two bytes", "00 41 00 40 80 00 1A 0B", 1);
    }

    private static void readComesBeforeValid() {
        Use.read("not valid, then not read",
            new Build().type(NOTHING).function(0, "00 6A 0B").function(0, "00 FF 0B").bytes(), 1);
        Use.read("not valid twice",
            new Build().type(NOTHING).function(0, "00 6A 0B").function(7, "00 0B").bytes(), 2);
        sectionsAre("a type that is not there, then an unknown section",
            TYPES + Build.section(3, "01 05") + CODES + "0B 01 00", 1);
        sectionsAre("exports alike, then a code too few", TYPES + Build.section(3, "02 00 00")
            + Build.section(7, "02 01 61 00 00 01 61 00 00") + CODES, 1);
    }
}
