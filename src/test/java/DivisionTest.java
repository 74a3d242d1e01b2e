import java.math.BigInteger;

/** Promise 7: the instructions of i64 and i32 that divide, with and without sign. */
public final class DivisionTest {
    private static final int DIV_S = 0;
    private static final int DIV_U = 1;
    private static final int REM_S = 2;
    private static final int REM_U = 3;
    private static final String[] NAMES = {"div_s", "div_u", "rem_s", "rem_u"};

    /** An object is promised 512 calls; a pair takes three for each instruction. */
    private static final int PAIRS_OF_ONE = 30;

    /** Two operands of i64, and what div_s, div_u, rem_s and rem_u answer. */
    private static final long[][] ROWS = {
        // The highest bit in neither: less, equal, greater.
        {7, 10, 0, 0, 7, 7},
        {0, 3, 0, 0, 0, 0},
        {0x7FFFFFFFFFFFFFFEL, 0x7FFFFFFFFFFFFFFFL, 0, 0, 0x7FFFFFFFFFFFFFFEL, 0x7FFFFFFFFFFFFFFEL},
        {10, 10, 1, 1, 0, 0},
        {0x7FFFFFFFFFFFFFFFL, 0x7FFFFFFFFFFFFFFFL, 1, 1, 0, 0},
        {10, 7, 1, 1, 3, 3},
        {0xE8D4A51000L, 7, 0x2142F30249L, 0x2142F30249L, 1, 1},
        {0x7FFFFFFFFFFFFFFFL, 2, 0x3FFFFFFFFFFFFFFFL, 0x3FFFFFFFFFFFFFFFL, 1, 1},
        {0x7FFFFFFFFFFFFFFFL, 0x7FFFFFFFFFFFFFFEL, 1, 1, 1, 1},
        {0x123456789ABCDEFL, 19088743, 0x100000079L, 0x100000079L, 64, 64},
        // In the first alone, which is so the greater one without signs.
        {0x8000000000000000L, 2, 0xC000000000000000L, 0x4000000000000000L, 0, 0},
        {0x8000000000000000L, 3, 0xD555555555555556L, 0x2AAAAAAAAAAAAAAAL, -2, 2},
        {0x8000000000000000L, 0x7FFFFFFFFFFFFFFFL, -1, 1, -1, 1},
        {0x8000000000000001L, 2, 0xC000000000000001L, 0x4000000000000000L, -1, 1},
        {-1, 2, 0, 0x7FFFFFFFFFFFFFFFL, -1, 1},
        {-1, 3, 0, 0x5555555555555555L, -1, 0},
        {-2, 0x7FFFFFFFFFFFFFFFL, 0, 2, -2, 0},
        {-1, 0x7FFFFFFFFFFFFFFFL, 0, 2, -1, 1},
        {-10, 7, -1, 0x2492492492492490L, -3, 6},
        {0xFEDCBA9876543210L, 305419896, -268435456, 0xE00000077L, -162254320, 72},
        // In the second alone, which is so the greater one without signs.
        {0, 0x8000000000000000L, 0, 0, 0, 0},
        {1, 0x8000000000000000L, 0, 0, 1, 1},
        {0x7FFFFFFFFFFFFFFFL, 0x8000000000000000L, 0, 0, 0x7FFFFFFFFFFFFFFFL, 0x7FFFFFFFFFFFFFFFL},
        {0x7FFFFFFFFFFFFFFFL, 0x8000000000000001L, -1, 0, 0, 0x7FFFFFFFFFFFFFFFL},
        {10, -3, -3, 0, 1, 10},
        {7, -7, -1, 0, 0, 7},
        {0x4000000000000000L, -2, 0xE000000000000000L, 0, 0, 0x4000000000000000L},
        // In both: less, equal, greater.
        {0x8000000000000000L, 0x8000000000000001L, 1, 0, -1, 0x8000000000000000L},
        {0x8000000000000000L, -2, 0x4000000000000000L, 0, 0, 0x8000000000000000L},
        {-10, -3, 3, 0, -1, -10},
        {0xFFFFFFFF00000000L, 0xFFFFFFFF80000000L, 2, 0, 0, 0xFFFFFFFF00000000L},
        {0x8000000000000000L, 0x8000000000000000L, 1, 1, 0, 0},
        {-7, -7, 1, 1, 0, 0},
        {0x8000000000000001L, 0x8000000000000000L, 0, 1, 0x8000000000000001L, 1},
        {-3, -10, 0, 1, -3, 7},
        {-1, 0x8000000000000000L, 0, 1, -1, 0x7FFFFFFFFFFFFFFFL},
        {-1, -2, 0, 1, -1, 1},
        {0xFEDCBA9876543210L, 0x8000000012345678L, 0, 1, 0xFEDCBA9876543210L, 0x7EDCBA98641FDB98L},
        // By 1.
        {0, 1, 0, 0, 0, 0},
        {1, 1, 1, 1, 0, 0},
        {5, 1, 5, 5, 0, 0},
        {0x7FFFFFFFFFFFFFFFL, 1, 0x7FFFFFFFFFFFFFFFL, 0x7FFFFFFFFFFFFFFFL, 0, 0},
        {0x8000000000000000L, 1, 0x8000000000000000L, 0x8000000000000000L, 0, 0},
        {0x8000000000000001L, 1, 0x8000000000000001L, 0x8000000000000001L, 0, 0},
        {-1, 1, -1, -1, 0, 0},
        // By -1, which is the greatest one without signs; MIN by it with signs stands apart.
        {0, -1, 0, 0, 0, 0},
        {1, -1, -1, 0, 0, 1},
        {5, -1, -5, 0, 0, 5},
        {0x7FFFFFFFFFFFFFFFL, -1, 0x8000000000000001L, 0, 0, 0x7FFFFFFFFFFFFFFFL},
        {0x8000000000000001L, -1, 0x7FFFFFFFFFFFFFFFL, 0, 0, 0x8000000000000001L},
        {-2, -1, 2, 0, 0, -2},
        {-1, -1, 1, 1, 0, 0},
    };

    private static final long[] FIRSTS_BY_ZERO = {
        0, 1, 10, -1, -10, 0x7FFFFFFFL, 0x80000000L, 1L << 32, Long.MAX_VALUE, Long.MIN_VALUE, Long.MIN_VALUE + 1
    };

    private static WaferRunner longs;
    private static WaferRunner ints;
    private static int pairs = 0;

    public static void main(String[] args) {
        for (long[] row : ROWS) {
            for (int k = DIV_S; k <= REM_U; k++) {
                WaferRunner x = Use.with(dividing(Build.TWO_I64_TO_I64, 0x7F));
                String what = told(k, row[0], row[1]);
                Due.same("i64." + what, Use.call(x, k, row[0], row[1]), row[2 + k]);
                Due.same("i64." + what + ": reason", x.count(1), 0);
                Due.same("i64." + what + ": steps", x.count(5), 3);
            }
        }
        byZero();
        tooGreat();
        long[] edges = edges();
        for (long a : edges) {
            for (long b : edges) {
                compareWithWholeNumbers(a, b);
            }
        }
        Due.finish();
    }

    private static String told(int k, long a, long b) {
        return NAMES[k] + " of " + a + ", " + b;
    }

    /** The four functions divide, with the instructions from the first one on. */
    private static Build dividing(String type, int first) {
        Build build = new Build().type(type);
        for (int k = DIV_S; k <= REM_U; k++) {
            build.function(0, String.format("00 20 00 20 01 %02X 0B", first + k));
        }
        return build;
    }

    private static void ends(String what, WaferRunner x, int f, int reason, long a, long b) {
        Due.thrown(what, ArithmeticException.class, () -> Use.call(x, f, a, b));
        Due.same(what + ": reason", x.count(1), reason);
        Due.same(what + ": steps", x.count(5), 3);
        Due.same(what + ": arguments that are left", x.count(6), 0);
    }

    private static void byZero() {
        for (int k = DIV_S; k <= REM_U; k++) {
            WaferRunner x = Use.with(dividing(Build.TWO_I64_TO_I64, 0x7F));
            WaferRunner y = Use.with(dividing(Build.TWO_I32_TO_I32, 0x6D));
            for (long a : FIRSTS_BY_ZERO) {
                ends("i64." + told(k, a, 0), x, k, 4, a, 0);
                ends("i32." + told(k, a, 0), y, k, 4, a, 0);
                ends("i32." + told(k, a, 1L << 32), y, k, 4, a, 1L << 32);
            }
            Due.same("i64, and goes on behind it", Use.call(x, k, 5, 7), k < REM_S ? 0 : 5);
            Due.same("its reason", x.count(1), 0);
            // Also if nobody asks for the answer, and if it is a constant.
            String dropped = String.format("00 20 00 20 01 %02X 1A 42 05 0B", 0x7F + k);
            ends("i64, dropped", Use.with(Build.one(Build.TWO_I64_TO_I64, dropped)), 0, 4, -1, 0);
            String written = String.format("00 42 7F 42 00 %02X 0B", 0x7F + k);
            ends("i64, written", Use.with(Build.one(Build.TWO_I64_TO_I64, written)), 0, 4, 8, 4);
        }
    }

    private static void tooGreat() {
        WaferRunner x = Use.with(dividing(Build.TWO_I64_TO_I64, 0x7F));
        ends("i64 least by -1", x, DIV_S, 5, Long.MIN_VALUE, -1);
        Due.same("without signs", Use.call(x, DIV_U, Long.MIN_VALUE, -1), 0);
        Due.same("the rest with signs", Use.call(x, REM_S, Long.MIN_VALUE, -1), 0);
        Due.same("the rest without", Use.call(x, REM_U, Long.MIN_VALUE, -1), Long.MIN_VALUE);
        Due.same("i64, the least of i32", Use.call(x, DIV_S, Integer.MIN_VALUE, -1), 1L << 31);
        WaferRunner y = Use.with(dividing(Build.TWO_I32_TO_I32, 0x6D));
        ends("i32 least by -1", y, DIV_S, 5, Integer.MIN_VALUE, -1);
        Due.same("without signs", Use.call(y, DIV_U, Integer.MIN_VALUE, -1), 0);
        Due.same("the rest with signs", Use.call(y, REM_S, Integer.MIN_VALUE, -1), 0);
        Due.same("the rest without", Use.call(y, REM_U, Integer.MIN_VALUE, -1), Integer.MIN_VALUE);
    }

    /** Every power of two, the numbers beside it, and what is its opposite: bits turn where a division goes wrong. */
    private static long[] edges() {
        long[] edges = new long[63 * 6];
        int n = 0;
        for (int bit = 1; bit < 64; bit++) {
            for (int beside = -1; beside <= 1; beside++) {
                edges[n++] = (1L << bit) + beside;
                edges[n++] = -((1L << bit) + beside);
            }
        }
        return edges;
    }

    private static void compareWithWholeNumbers(long a, long b) {
        if (pairs % PAIRS_OF_ONE == 0) {
            longs = Use.with(dividing(Build.TWO_I64_TO_I64, 0x7F));
            ints = Use.with(dividing(Build.TWO_I32_TO_I32, 0x6D));
        }
        pairs++;
        compare("i64.", longs, 64, a, b);
        if ((int) b != 0 && a == (int) a) {
            compare("i32.", ints, 32, (int) a, (int) b);
        }
    }

    private static void compare(String name, WaferRunner x, int bits, long a, long b) {
        BigInteger whole = BigInteger.ONE.shiftLeft(bits);
        BigInteger[] signed = BigInteger.valueOf(a).divideAndRemainder(BigInteger.valueOf(b));
        BigInteger[] unsigned = BigInteger.valueOf(a).mod(whole).divideAndRemainder(BigInteger.valueOf(b).mod(whole));
        // With signs a quotient too great stands apart.
        if (signed[0].bitLength() < bits) {
            Due.same(name + told(DIV_S, a, b), Use.call(x, DIV_S, a, b), cut(signed[0], bits));
        }
        Due.same(name + told(DIV_U, a, b), Use.call(x, DIV_U, a, b), cut(unsigned[0], bits));
        Due.same(name + told(REM_S, a, b), Use.call(x, REM_S, a, b), cut(signed[1], bits));
        Due.same(name + told(REM_U, a, b), Use.call(x, REM_U, a, b), cut(unsigned[1], bits));
    }

    private static long cut(BigInteger n, int bits) {
        return bits == 32 ? n.intValue() : n.longValue();
    }
}
