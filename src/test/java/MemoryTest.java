/** Promise 9, and the instructions of promise 7 that touch the memory. */
public final class MemoryTest {
    private static final int PAGE = 65536;

    public static void main(String[] args) {
        bytesThatAreRead();
        loads();
        stores();
        edges();
        growth();
        Due.finish();
    }

    /** f0 stores an i64 at an address, f1 grows the memory, f2 tells its size. */
    private static Build machine(String limits) {
        return new Build().type("60 02 7F 7E 00").type(Build.I32_TO_I32).type(Build.NONE_TO_I32)
            .function(0, "00 20 00 20 01 37 03 00 0B").function(1, "00 20 00 40 00 0B").function(2, "00 3F 00 0B")
            .memory(limits);
    }

    private static void bytesThatAreRead() {
        WaferRunner x = Use.with(machine("00 01"));
        Due.same("memory(0)", x.memory(0), 0);
        Due.same("memory(last)", x.memory(PAGE - 1), 0);
        for (int i : new int[] {-1, PAGE, PAGE + 1, 2 * PAGE, Integer.MIN_VALUE, Integer.MAX_VALUE}) {
            Due.thrown("memory(" + i + ")", IllegalArgumentException.class, () -> x.memory(i));
        }
        Use.answers("store", x, 0, PAGE - 8, 0xFF80402010080402L);
        int[] due = {0x02, 0x04, 0x08, 0x10, 0x20, 0x40, 0x80, 0xFF};
        for (int k = 0; k < 8; k++) {
            Due.same("byte " + k + " without a sign", x.memory(PAGE - 8 + k), due[k]);
        }
        Due.same("grow", Use.call(x, 1, 1), 1);
        Due.same("the byte stays", x.memory(PAGE - 1), 0xFF);
        Due.same("the new page is 0", x.memory(PAGE), 0);
        Due.same("the last byte of two pages", x.memory(2 * PAGE - 1), 0);
        Due.thrown("memory behind two pages", IllegalArgumentException.class, () -> x.memory(2 * PAGE));
        Use.answers("store across pages", x, 0, PAGE - 4, -1);
        Due.same("a byte of the first page", x.memory(PAGE - 4), 255);
        Due.same("a byte of the second page", x.memory(PAGE + 3), 255);
        Due.same("the byte behind", x.memory(PAGE + 4), 0);

        WaferRunner empty = Use.with(new Build().memory("00 00"));
        Due.thrown("memory(0) of no pages", IllegalArgumentException.class, () -> empty.memory(0));
        WaferRunner none = Use.with(new Build());
        Due.thrown("memory(0) of no memory", IllegalArgumentException.class, () -> none.memory(0));
    }

    private static void loads() {
        // Stores an i64 at 16, then loads it in its own way from an address.
        String store = "00 41 10 42" + Build.signed(0x8899AABBCCDDEEFFL) + "37 03 00 20 00";
        Use.runs("i32.load", Build.I32_TO_I32, store + "28 02 00 0B", 0xCCDDEEFF, 16);
        Use.runs("i32.load, not aligned", Build.I32_TO_I32, store + "28 00 00 0B", 0xBBCCDDEE, 17);
        Use.runs("i32.load with an offset", Build.I32_TO_I32, store + "28 00 04 0B", 0x8899AABB, 16);
        Use.runs("i32.load across the end", Build.I32_TO_I32, store + "28 00 00 0B", 0x00008899, 22);
        Use.runs("i64.load", Build.I32_TO_I64, store + "29 03 00 0B", 0x8899AABBCCDDEEFFL, 16);
        Use.runs("i64.load, not aligned", Build.I32_TO_I64, store + "29 00 01 0B", 0x99AABBCCDDEEFF00L, 14);
        Use.runs("i32.load8_s", Build.I32_TO_I32, store + "2C 00 00 0B", -1, 16);
        Use.runs("i32.load8_u", Build.I32_TO_I32, store + "2D 00 00 0B", 255, 16);
        Use.runs("i32.load8_s", Build.I32_TO_I32, store + "2C 00 07 0B", -0x78, 16);
        Use.runs("i32.load8_u", Build.I32_TO_I32, store + "2D 00 07 0B", 0x88, 16);
        Use.runs("i32.load8_s of 0", Build.I32_TO_I32, store + "2C 00 08 0B", 0, 16);
        Use.runs("i32.load is an i32", Build.I32_TO_I64, store + "28 00 00 AD 0B", 0xCCDDEEFFL, 16);
    }

    private static void stores() {
        String fill = "00 41 00 42 7F 37 03 00 41 08 42 7F 37 03 00 ";
        Use.runs("i32.store", Build.NONE_TO_I64, fill + "41 02 41" + Build.signed(0x11223344) + "36 00 00 41 00 29 00 00 0B",
            0xFFFF11223344FFFFL);
        Use.runs("i32.store8", Build.NONE_TO_I64, fill + "41 02 41" + Build.signed(0x11223344) + "3A 00 01 41 00 29 00 00 0B",
            0xFFFFFFFF44FFFFFFL);
        Use.runs("i64.store", Build.NONE_TO_I64, fill + "41 02 42" + Build.signed(0x1122334455667788L)
            + "37 00 02 41 04 29 00 00 0B", 0x1122334455667788L);
        Use.runs("i64.store leaves the rest", Build.NONE_TO_I32, fill + "41 02 42 00 37 00 02 41 0A 28 00 00 0B",
            0xFFFF0000);
    }

    private static void edges() {
        accessAt("28", 4, "1A", "");
        accessAt("29", 8, "1A", "");
        accessAt("2C", 1, "1A", "");
        accessAt("2D", 1, "1A", "");
        accessAt("36", 4, "", "41 7F");
        accessAt("37", 8, "", "42 7F");
        accessAt("3A", 1, "", "41 7F");
        // A store outside of the memory puts nothing.
        WaferRunner x = Use.with(machine("00 01"));
        Use.ends("a store half outside", x, 6, PAGE - 4, -1);
        for (int k = 1; k <= 8; k++) {
            Due.same("memory near the end", x.memory(PAGE - k), 0);
        }
    }

    private static void accessAt(String op, int width, String drop, String value) {
        String head = "00 20 00" + value + op + "00";
        WaferRunner x = Use.with(Build.one(Build.I32_TO_NONE, head + "00" + drop + "0B"));
        Use.answers(op, x, 0, PAGE - width);
        Use.ends(op, x, 6, PAGE - width + 1);
        Due.same("steps", x.count(5), value.isEmpty() ? 2 : 3);
        Use.ends(op, x, 6, PAGE);
        Use.ends(op, x, 6, -1);
        Use.ends(op, x, 6, Integer.MIN_VALUE);
        Use.ends(op, x, 6, Integer.MAX_VALUE);
        Use.answers(op + " of the lowest bits", x, 0, 1L << 32);
        WaferRunner far = Use.with(Build.one(Build.I32_TO_NONE, head + "FF FF FF FF 0F" + drop + "0B"));
        Use.ends(op + " with the greatest offset", far, 6, 0);
        Use.ends(op + " with the greatest offset and 1", far, 6, 1);
        Use.ends(op + " with the greatest of both", far, 6, -1);
        WaferRunner near = Use.with(Build.one(Build.I32_TO_NONE, head + Build.number(PAGE - width) + drop + "0B"));
        Use.answers(op + " with an offset to the end", near, 0, 0);
        Use.ends(op + " with an offset to the end and 1", near, 6, 1);
        Use.ends(op + " with an offset to the end and -1", near, 6, -1);
        WaferRunner none = Use.with(new Build().type(Build.I32_TO_NONE).memory("00 00")
            .function(0, head + "00" + drop + "0B"));
        Use.ends(op + " of no pages", none, 6, 0);
    }

    private static void growth() {
        WaferRunner x = Use.with(machine("00 00"));
        Due.same("size", Use.call(x, 2), 0);
        Due.same("grow by 0", Use.call(x, 1, 0), 0);
        Due.same("grow by 3", Use.call(x, 1, 3), -1);
        Due.same("grow by -1", Use.call(x, 1, -1), -1);
        Due.same("grow by the least", Use.call(x, 1, Integer.MIN_VALUE), -1);
        Due.same("pages", x.count(4), 0);
        Due.same("grow by 1", Use.call(x, 1, 1), 0);
        Due.same("size", Use.call(x, 2), 1);
        Due.same("grow by 2", Use.call(x, 1, 2), -1);
        Due.same("grow by 1", Use.call(x, 1, 1), 1);
        Due.same("pages", x.count(4), 2);
        Due.same("grow by 1", Use.call(x, 1, 1), -1);
        Due.same("grow by 0", Use.call(x, 1, 0), 2);
        Due.same("size", Use.call(x, 2), 2);

        WaferRunner most = Use.with(machine("01 00 01"));
        Due.same("grow by 2 of most 1", Use.call(most, 1, 2), -1);
        Due.same("grow by 1 of most 1", Use.call(most, 1, 1), 0);
        Due.same("grow by 1 more of most 1", Use.call(most, 1, 1), -1);
        Due.same("pages", most.count(4), 1);
        WaferRunner fixed = Use.with(machine("01 01 01"));
        Due.same("grow by 1 of 1 to 1", Use.call(fixed, 1, 1), -1);
        Due.same("grow by 0 of 1 to 1", Use.call(fixed, 1, 0), 1);
        WaferRunner wide = Use.with(machine("01 01 80 80 04"));
        Due.same("grow by 1 of most 65536", Use.call(wide, 1, 1), 1);
        Due.same("grow by 1 more of most 65536", Use.call(wide, 1, 1), -1);
    }
}
