import java.math.BigInteger;

/** Promise 7: every numeric instruction, against whole numbers without a bound. */
public final class NumericTest {
    private static final long[] INTS = {
        0, 1, 2, 3, 5, 7, 10, 31, 32, 33, 63, 64, 65, 127, 128, 255, 256, 1000, 65535, 65536, 0x12345678, 0x7FFFFFFE,
        0x7FFFFFFF, -1, -2, -3, -5, -7, -31, -32, -33, -64, -128, -1000, -65536, -0x7FFFFFFF, -0x80000000L
    };
    private static final long[] LONGS = {
        0, 1, 2, 3, 7, 10, 31, 32, 33, 63, 64, 65, 127, 128, 1000, 0x7FFFFFFFL, 0x80000000L, 0xFFFFFFFFL, 0x100000000L,
        0x123456789ABCDEFL, Long.MAX_VALUE - 1, Long.MAX_VALUE, -1, -2, -3, -7, -10, -63, -64, -65, -1000,
        -0x80000000L, -0x80000001L, -0x100000000L, Long.MIN_VALUE + 1, Long.MIN_VALUE
    };

    public static void main(String[] args) {
        for (int op = 0x45; op <= 0x4F; op++) {
            all(op, 32, op == 0x45, true, INTS);
            all(op + 0x0B, 64, op == 0x45, true, LONGS);
        }
        for (int op = 0x67; op <= 0x78; op++) {
            all(op, 32, op <= 0x69, false, INTS);
            all(op + 0x12, 64, op <= 0x69, false, LONGS);
        }
        conversions();
        reasons();
        Due.finish();
    }

    private static void all(int op, int bits, boolean one, boolean compares, long[] numbers) {
        String in = bits == 32 ? "7F" : "7E";
        String out = compares || bits == 32 ? "7F" : "7E";
        String code = String.format("00 20 00 %s %02X 0B", one ? "" : "20 01", op);
        byte[] module = Build.one("60" + (one ? "01" : "02 " + in) + in + "01" + out, code);
        for (long a : numbers) {
            // One object for all numbers would be asked more often than the 512 times that are promised.
            WaferRunner x = Use.with(module);
            for (long b : one ? new long[] {0} : numbers) {
                int plain = bits == 32 ? op : op - (compares ? 0x0B : 0x12);
                String what = Integer.toHexString(op) + " of " + a + ", " + b;
                BigInteger due = due(plain, bits, a, b);
                long[] arguments = one ? new long[] {a} : new long[] {a, b};
                if (due == null) {
                    Use.ends(what, x, b == 0 ? 4 : 5, arguments);
                } else {
                    Due.same(what, Use.call(x, 0, arguments), signed(due, bits).longValueExact());
                }
                Due.same(what + ": steps", x.count(5), one ? 2 : 3);
            }
        }
    }

    private static BigInteger signed(BigInteger n, int bits) {
        BigInteger whole = BigInteger.ONE.shiftLeft(bits);
        BigInteger low = n.mod(whole);
        return low.testBit(bits - 1) ? low.subtract(whole) : low;
    }

    private static BigInteger truth(boolean holds) {
        return holds ? BigInteger.ONE : BigInteger.ZERO;
    }

    /** Null where the instruction ends the run. */
    private static BigInteger due(int op, int bits, long left, long right) {
        BigInteger whole = BigInteger.ONE.shiftLeft(bits);
        BigInteger a = BigInteger.valueOf(left);
        BigInteger b = BigInteger.valueOf(right);
        BigInteger ua = a.mod(whole);
        BigInteger ub = b.mod(whole);
        int shift = ub.mod(BigInteger.valueOf(bits)).intValue();
        switch (op) {
            case 0x45: return truth(left == 0);
            case 0x46: return truth(left == right);
            case 0x47: return truth(left != right);
            case 0x48: return truth(a.compareTo(b) < 0);
            case 0x49: return truth(ua.compareTo(ub) < 0);
            case 0x4A: return truth(a.compareTo(b) > 0);
            case 0x4B: return truth(ua.compareTo(ub) > 0);
            case 0x4C: return truth(a.compareTo(b) <= 0);
            case 0x4D: return truth(ua.compareTo(ub) <= 0);
            case 0x4E: return truth(a.compareTo(b) >= 0);
            case 0x4F: return truth(ua.compareTo(ub) >= 0);
            case 0x67: return BigInteger.valueOf(bits - ua.bitLength());
            case 0x68: return BigInteger.valueOf(left == 0 ? bits : ua.getLowestSetBit());
            case 0x69: return BigInteger.valueOf(ua.bitCount());
            case 0x6A: return a.add(b);
            case 0x6B: return a.subtract(b);
            case 0x6C: return a.multiply(b);
            case 0x6D: return right == 0 || a.divide(b).bitLength() >= bits ? null : a.divide(b);
            case 0x6E: return right == 0 ? null : ua.divide(ub);
            case 0x6F: return right == 0 ? null : a.remainder(b);
            case 0x70: return right == 0 ? null : ua.remainder(ub);
            case 0x71: return a.and(b);
            case 0x72: return a.or(b);
            case 0x73: return a.xor(b);
            case 0x74: return a.shiftLeft(shift);
            case 0x75: return a.shiftRight(shift);
            case 0x76: return ua.shiftRight(shift);
            case 0x77: return ua.shiftLeft(shift).or(ua.shiftRight(bits - shift));
            default: return ua.shiftRight(shift).or(ua.shiftLeft(bits - shift));
        }
    }

    private static void conversions() {
        WaferRunner wrap = Use.with(Build.one(Build.I64_TO_I32, "00 20 00 A7 0B"));
        for (long a : LONGS) {
            Due.same("wrap " + a, Use.call(wrap, 0, a), (int) a);
        }
        WaferRunner extendS = Use.with(Build.one(Build.I32_TO_I64, "00 20 00 AC 0B"));
        WaferRunner extendU = Use.with(Build.one(Build.I32_TO_I64, "00 20 00 AD 0B"));
        for (long a : INTS) {
            Due.same("extend_s " + a, Use.call(extendS, 0, a), a);
            Due.same("extend_u " + a, Use.call(extendU, 0, a), a & 0xFFFFFFFFL);
        }
        // What is wrapped is an i32 in all that follows.
        Use.runs("wrap, then compare", Build.I64_TO_I32, "00 20 00 A7 45 0B", 1, 1L << 32);
        Use.runs("wrap, then unsigned", Build.I64_TO_I32, "00 20 00 A7 41 7F 49 0B", 0, 0xFFFFFFFFL);
        Use.runs("wrap, then extend_s", Build.I64_TO_I64, "00 20 00 A7 AC 0B", -1, 0xFFFFFFFFL);
        Use.runs("an i32 quotient without sign", Build.TWO_I32_TO_I32, "00 20 00 20 01 6E 41 7F 46 0B", 1, -1, 1);
    }

    private static void reasons() {
        for (int op = 0x6D; op <= 0x70; op++) {
            WaferRunner x = Use.with(Build.one(Build.TWO_I32_TO_I32, String.format("00 20 00 20 01 %02X 0B", op)));
            Use.ends("i32 by 0", x, 4, Integer.MIN_VALUE, 0);
            Use.ends("i32 by 2^32", x, 4, 1, 1L << 32);
            WaferRunner y = Use.with(Build.one(Build.TWO_I64_TO_I64, String.format("00 20 00 20 01 %02X 0B", op + 0x12)));
            Use.ends("i64 by 0", y, 4, Long.MIN_VALUE, 0);
            Use.answers("i64 by 2^32", y, 0, 0, 1L << 32);
        }
    }
}
