import java.util.function.UnaryOperator;

/**
 * READ: "each: 5 bytes, numbers up to 2^32 - 1, 10 for i64, the last one without other bits", and "indices at most
 * 2^31 - 1 (alignment, too)", at each place where a number stands.
 */
public final class NumberEdgesTest {
    private static final String TYPES = Build.section(1, "01 60 00 00");
    private static final String FUNCTIONS = Build.section(3, "01 00");
    private static final String MEMORY = "05 03 01 00 01";
    private static final String GLOBALS = Build.section(6, "01 7F 01 41 00 0B");
    private static final String CODES = Build.section(10, "01 02 00 0B");

    /** What a number of 2^28 and more is at a place, and so what a fifth byte may be there. */
    private enum Kind {
        /** More than there may be. */
        COUNT,
        /** Of something that is not there, which VALID tells; but not above 2^31 - 1. */
        INDEX,
        /** More pages than VALID allows. */
        PAGES,
        /** An offset may be any number. */
        OFFSET
    }

    private static final int[] FIFTH_BYTES = {
        0x00, 0x01, 0x07, 0x08, 0x0F, 0x10, 0x18, 0x20, 0x40, 0x70, 0x77, 0x78, 0x7F, 0x80, 0x8F, 0xFF
    };

    public static void main(String[] args) {
        sizes();
        outsideOfCodes();
        exports();
        codes();
        labels();
        variables();
        access();
        constants(32, "7F", "41");
        constants(64, "7E", "42");
        Due.finish();
    }

    private static void numberIs(String what, Kind kind, int good, UnaryOperator<String> module) {
        for (int length = 1; length <= 5; length++) {
            is(what + " in " + length + " bytes", module, Build.padded(good, length), 0);
        }
        is(what + " in 6 bytes", module, Build.padded(good, 6), 1);
        is(what + " in 7 bytes", module, Build.padded(good, 7), 1);
        for (int fifth : FIFTH_BYTES) {
            is(what + " with a fifth byte " + fifth, module, Build.padded(good, 5, fifth), due(kind, fifth));
        }
    }

    private static void is(String what, UnaryOperator<String> module, String number, int reason) {
        Use.read(what, Build.hex(Build.HEAD + module.apply(number)), reason);
    }

    private static int due(Kind kind, int fifth) {
        switch (kind) {
            case INDEX:
                return fifth == 0 ? 0 : fifth < 0x08 ? 2 : 1;
            case PAGES:
                return fifth == 0 ? 0 : fifth < 0x10 ? 2 : 1;
            case OFFSET:
                return fifth < 0x10 ? 0 : 1;
            default:
                return fifth == 0 ? 0 : 1;
        }
    }

    private static void sizes() {
        numberIs("size of section 0", Kind.COUNT, 1, n -> "00" + n + "00");
        numberIs("size of section 1", Kind.COUNT, 4, n -> "01" + n + "01 60 00 00");
        numberIs("size of section 3", Kind.COUNT, 1, n -> "03" + n + "00");
        numberIs("size of section 5", Kind.COUNT, 3, n -> "05" + n + "01 00 01");
        numberIs("size of section 6", Kind.COUNT, 6, n -> "06" + n + "01 7F 01 41 00 0B");
        numberIs("size of section 7", Kind.COUNT, 1, n -> "07" + n + "00");
        numberIs("size of section 10", Kind.COUNT, 4, n -> TYPES + FUNCTIONS + "0A" + n + "01 02 00 0B");
        numberIs("size of a code", Kind.COUNT, 2, n -> TYPES + FUNCTIONS + Build.section(10, "01" + n + "00 0B"));
        numberIs("length of a name in section 0", Kind.COUNT, 1, n -> Build.section(0, n + "41 42 43"));
    }

    private static void outsideOfCodes() {
        numberIs("count of types", Kind.COUNT, 1, n -> Build.section(1, n + "60 00 00"));
        numberIs("count of parameters", Kind.COUNT, 1, n -> Build.section(1, "01 60" + n + "7F 00"));
        numberIs("count of results", Kind.COUNT, 1, n -> Build.section(1, "01 60 00" + n + "7F"));
        numberIs("count of functions", Kind.COUNT, 1, n -> TYPES + Build.section(3, n + "00") + CODES);
        numberIs("a type's index", Kind.INDEX, 0, n -> TYPES + Build.section(3, "01" + n) + CODES);
        numberIs("count of memories", Kind.COUNT, 1, n -> Build.section(5, n + "00 01"));
        numberIs("pages at first", Kind.PAGES, 1, n -> Build.section(5, "01 00" + n));
        numberIs("pages at first, with a most", Kind.PAGES, 1, n -> Build.section(5, "01 01" + n + "02"));
        numberIs("pages at most", Kind.PAGES, 1, n -> Build.section(5, "01 01 01" + n));
        numberIs("count of globals", Kind.COUNT, 1, n -> Build.section(6, n + "7F 01 41 00 0B"));
    }

    private static void exports() {
        numberIs("count of exports", Kind.COUNT, 1,
            n -> TYPES + FUNCTIONS + Build.section(7, n + "01 61 00 00") + CODES);
        numberIs("length of an export's name", Kind.COUNT, 1,
            n -> TYPES + FUNCTIONS + Build.section(7, "01" + n + "61 00 00") + CODES);
        numberIs("index of a function that is exported", Kind.INDEX, 0,
            n -> TYPES + FUNCTIONS + Build.section(7, "01 01 61 00" + n) + CODES);
        numberIs("index of a memory that is exported", Kind.INDEX, 0,
            n -> MEMORY + Build.section(7, "01 01 61 02" + n));
        numberIs("index of a global that is exported", Kind.INDEX, 0,
            n -> GLOBALS + Build.section(7, "01 01 61 03" + n));
    }

    private static void codes() {
        numberIs("count of codes", Kind.COUNT, 1, n -> TYPES + FUNCTIONS + Build.section(10, n + "02 00 0B"));
        numberIs("count of runs", Kind.COUNT, 1, n -> codeOf(n + "01 7F 0B"));
        numberIs("length of a run", Kind.COUNT, 1, n -> codeOf("01" + n + "7F 0B"));
        numberIs("a function's index", Kind.INDEX, 0, n -> bodyOf("10" + n));
    }

    private static String codeOf(String code) {
        return TYPES + FUNCTIONS + MEMORY + GLOBALS + Build.section(10, "01" + Build.sized(code));
    }

    /** Of a function with one local of i32. */
    private static String bodyOf(String body) {
        return codeOf("01 01 7F" + body + "0B");
    }

    private static void labels() {
        numberIs("label of br", Kind.INDEX, 0, n -> bodyOf("0C" + n));
        numberIs("label of br_if", Kind.INDEX, 0, n -> bodyOf("41 00 0D" + n));
        numberIs("count of labels", Kind.COUNT, 1, n -> bodyOf("41 00 0E" + n + "00 00"));
        numberIs("first label of br_table", Kind.INDEX, 0, n -> bodyOf("41 00 0E 02" + n + "00 00"));
        numberIs("second label of br_table", Kind.INDEX, 0, n -> bodyOf("41 00 0E 02 00" + n + "00"));
        numberIs("last label of br_table", Kind.INDEX, 0, n -> bodyOf("41 00 0E 02 00 00" + n));
        numberIs("only label of br_table", Kind.INDEX, 0, n -> bodyOf("41 00 0E 00" + n));
    }

    private static void variables() {
        numberIs("local.get", Kind.INDEX, 0, n -> bodyOf("20" + n + "1A"));
        numberIs("local.set", Kind.INDEX, 0, n -> bodyOf("41 00 21" + n));
        numberIs("local.tee", Kind.INDEX, 0, n -> bodyOf("41 00 22" + n + "1A"));
        numberIs("global.get", Kind.INDEX, 0, n -> bodyOf("23" + n + "1A"));
        numberIs("global.set", Kind.INDEX, 0, n -> bodyOf("41 00 24" + n));
    }

    private static void access() {
        String[][] rows = {
            {"41 00 28", "1A"}, {"41 00 29", "1A"}, {"41 00 2C", "1A"}, {"41 00 2D", "1A"},
            {"41 00 41 00 36", ""}, {"41 00 42 00 37", ""}, {"41 00 41 00 3A", ""}
        };
        for (String[] row : rows) {
            numberIs("alignment of " + row[0], Kind.INDEX, 0, n -> bodyOf(row[0] + n + "00" + row[1]));
            numberIs("offset of " + row[0], Kind.OFFSET, 0, n -> bodyOf(row[0] + "00" + n + row[1]));
        }
    }

    /** The last byte that a constant may have says its sign by all bits that are not the number's own. */
    private static void constants(int bits, String type, String op) {
        int most = (bits + 6) / 7;
        UnaryOperator<String> inGlobal = n -> Build.section(6, "01" + type + "00" + op + n + "0B");
        UnaryOperator<String> inCode = n -> bodyOf(op + n + "1A");
        for (long value : new long[] {0, 1, -1, 63, -64}) {
            for (int length = 1; length <= most + 2; length++) {
                int reason = length <= most ? 0 : 1;
                is("a global in " + length + " bytes", inGlobal, Build.padded(value, length), reason);
                is("a constant in " + length + " bytes", inCode, Build.padded(value, length), reason);
                if (reason == 0) {
                    valueIs(inGlobal.apply(Build.padded(value, length)), value);
                }
            }
        }
        int own = bits - 7 * (most - 1);
        for (int last = 0; last < 256; last++) {
            int signs = last >> own - 1;
            boolean good = signs == 0 || signs == 127 >> own - 1;
            String number = Build.times(most - 1, "80") + String.format("%02X", last);
            is("a global's last byte " + last, inGlobal, number, good ? 0 : 1);
            is("a constant's last byte " + last, inCode, number, good ? 0 : 1);
            if (good) {
                valueIs(inGlobal.apply(number), bits == 32 ? last << 28 : (long) last << 63);
            }
        }
    }

    private static void valueIs(String sections, long value) {
        Due.same("the global of " + sections, Use.with(Build.hex(Build.HEAD + sections)).global(0), value);
    }
}
