/** "i32 and i64 are whole numbers of 32 and 64 bits, with sign, that wrap", at both ends of both. */
public final class WrapTest {
    private static final long MOST_INT = Integer.MAX_VALUE;
    private static final long LEAST_INT = Integer.MIN_VALUE;
    private static final long MOST = Long.MAX_VALUE;
    private static final long LEAST = Long.MIN_VALUE;

    public static void main(String[] args) {
        ints();
        longs();
        acrossTypes();
        globalsAndLocals();
        addressesDoNotWrap();
        Due.finish();
    }

    private static void wraps(String type, int op, long[][] rows) {
        byte[] module = Build.one(type, String.format("00 20 00 20 01 %02X 0B", op));
        for (WaferRunner x : Past.allWith(module)) {
            for (long[] row : rows) {
                Use.answers(Integer.toHexString(op), x, row[2], row[0], row[1]);
            }
        }
    }

    private static void ints() {
        String type = Build.TWO_I32_TO_I32;
        wraps(type, 0x6A, new long[][] {{MOST_INT, 0, MOST_INT}, {MOST_INT, 1, LEAST_INT}, {LEAST_INT, -1, MOST_INT},
            {LEAST_INT, LEAST_INT, 0}, {MOST_INT, MOST_INT, -2}, {-1, 1, 0}});
        wraps(type, 0x6B, new long[][] {{LEAST_INT, 0, LEAST_INT}, {LEAST_INT, 1, MOST_INT}, {MOST_INT, -1, LEAST_INT},
            {0, LEAST_INT, LEAST_INT}, {0, MOST_INT, -MOST_INT}, {0, 1, -1}});
        wraps(type, 0x6C, new long[][] {{MOST_INT, 2, -2}, {LEAST_INT, -1, LEAST_INT}, {65536, 65536, 0},
            {65536, 32768, LEAST_INT}, {65535, 65537, -1}, {46341, 46341, -2147479015}});
        wraps(type, 0x74, new long[][] {{1, 30, 1 << 30}, {1, 31, LEAST_INT}, {1, 32, 1}, {1, 33, 2},
            {3, 31, LEAST_INT}, {1, -1, LEAST_INT}});
        wraps(type, 0x75, new long[][] {{LEAST_INT, 31, -1}, {LEAST_INT, 32, LEAST_INT}, {MOST_INT, 31, 0}});
        wraps(type, 0x76, new long[][] {{LEAST_INT, 31, 1}, {LEAST_INT, 32, LEAST_INT}, {-1, 1, MOST_INT}});
    }

    private static void longs() {
        String type = Build.TWO_I64_TO_I64;
        wraps(type, 0x7C, new long[][] {{MOST, 0, MOST}, {MOST, 1, LEAST}, {LEAST, -1, MOST}, {LEAST, LEAST, 0},
            {MOST, MOST, -2}, {MOST_INT, 1, MOST_INT + 1}, {0xFFFFFFFFL, 1, 1L << 32}});
        wraps(type, 0x7D, new long[][] {{LEAST, 0, LEAST}, {LEAST, 1, MOST}, {MOST, -1, LEAST}, {0, LEAST, LEAST},
            {LEAST_INT, 1, LEAST_INT - 1}});
        wraps(type, 0x7E, new long[][] {{MOST, 2, -2}, {LEAST, -1, LEAST}, {1L << 32, 1L << 32, 0},
            {1L << 32, 1L << 31, LEAST}, {65536, 65536, 1L << 32}});
        wraps(type, 0x86, new long[][] {{1, 31, 1L << 31}, {1, 32, 1L << 32}, {1, 63, LEAST}, {1, 64, 1}, {1, 65, 2},
            {1, -1, LEAST}});
        wraps(type, 0x87, new long[][] {{LEAST, 63, -1}, {LEAST, 64, LEAST}, {MOST, 63, 0}});
        wraps(type, 0x88, new long[][] {{LEAST, 63, 1}, {LEAST, 64, LEAST}, {-1, 1, MOST}});
    }

    private static void acrossTypes() {
        for (WaferRunner x : Past.allWith(Build.one(Build.I64_TO_I32, "00 20 00 A7 0B"))) {
            for (long[] row : new long[][] {{MOST_INT, MOST_INT}, {MOST_INT + 1, LEAST_INT}, {LEAST_INT, LEAST_INT},
                {LEAST_INT - 1, MOST_INT}, {0xFFFFFFFFL, -1}, {1L << 32, 0}, {MOST, -1}, {LEAST, 0}}) {
                Use.answers("i32.wrap_i64", x, row[1], row[0]);
            }
        }
        for (WaferRunner x : Past.allWith(Build.one(Build.I32_TO_I64, "00 20 00 AC 0B"))) {
            Use.answers("i64.extend_i32_s", x, LEAST_INT, MOST_INT + 1);
            Use.answers("i64.extend_i32_s", x, MOST_INT, MOST_INT);
        }
        for (WaferRunner x : Past.allWith(Build.one(Build.I32_TO_I64, "00 20 00 AD 0B"))) {
            Use.answers("i64.extend_i32_u", x, 0xFFFFFFFFL, -1);
            Use.answers("i64.extend_i32_u", x, 0x80000000L, LEAST_INT);
            Use.answers("i64.extend_i32_u", x, 0, 1L << 32);
        }
    }

    /** What has wrapped is an ordinary number wherever it is kept. */
    private static void globalsAndLocals() {
        byte[] module = new Build().type(Build.NONE_TO_I32).type(Build.NONE_TO_I64)
            .function(0, "01 01 7F 23 00 41 01 6A 24 00 23 00 21 00 20 00 0B")
            .function(1, "01 01 7E 23 01 42 01 7C 24 01 23 01 21 00 20 00 0B")
            .global("7F 01 41" + Build.signed(MOST_INT - 1) + "0B").global("7E 01 42" + Build.signed(MOST - 1) + "0B")
            .bytes();
        for (WaferRunner x : Past.allWith(module)) {
            for (long due : new long[] {MOST_INT, LEAST_INT, LEAST_INT + 1}) {
                Due.same("an i32 that is counted up", x.call(0), due);
                Due.same("its global", x.global(0), due);
            }
            for (long due : new long[] {MOST, LEAST, LEAST + 1}) {
                Due.same("an i64 that is counted up", x.call(1), due);
                Due.same("its global", x.global(1), due);
            }
        }
    }

    /** The sum of an address and an offset is no i32: it goes beyond the memory. */
    private static void addressesDoNotWrap() {
        for (long offset : new long[] {1, 8, 65536, MOST_INT, 0x80000000L, 0xFFFFFFFFL}) {
            String code = "00 20 00 2D 00" + Build.number(offset) + "0B";
            for (WaferRunner x : Past.allWith(Build.one(Build.I32_TO_I32, code))) {
                Use.ends("the greatest address", x, 6, -1);
                Use.ends("half of the greatest", x, 6, LEAST_INT);
                Use.ends("one below half of the greatest", x, 6, MOST_INT);
            }
        }
    }
}
