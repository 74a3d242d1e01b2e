import java.util.Arrays;
import java.util.Set;
import java.util.TreeSet;

/**
 * RUN: what each instruction that is not a block or a branch gives, and that it leaves all else as it was: values that
 * lie below, locals, globals, pages and bytes. Blocks and branches have BlockTest, calls have CallTest.
 */
public final class DeedTest {
    private static final int BYTES = 24;
    /** Bytes 0 to 15 at first. */
    private static final long LOW = 0x8877665544332281L;
    private static final long HIGH = 0x0F1E2D3C4B5A69F8L;

    private static final int DEED = 0;
    private static final int FILL = 1;

    /** Locals 0 and 1 are i32 and begin as 30 and 40; 2 and 3 are i64 and begin as 50 and 60. */
    private static final String LOCALS = "41 1E 21 00 41 28 21 01 42 32 21 02 42 3C 21 03";
    private static final int STEPS_OF_LOCALS = 8;
    /** All locals and two values that lie below in one number. */
    private static final String SUM = "AC 7C 20 00 AC 42 E4 00 7E 7C 20 01 AC 42 90 CE 00 7E 7C"
        + "20 02 42 C0 84 3D 7E 7C 20 03 42 80 C2 D7 2F 7E 7C";
    private static final int STEPS_OF_SUM = 20;

    private static final Set<Integer> SEEN = new TreeSet<>();

    /** What there is behind a deed, as it is without it. */
    private static final class Ledger {
        final long[] locals = {30, 40, 50, 60};
        final long[] globals = {0, 200, 300};
        int pages = 1;
        final byte[] bytes = new byte[BYTES];

        Ledger() {
            put(0, LOW, 8);
            put(8, HIGH, 8);
        }

        Ledger result(long v) {
            globals[0] = v;
            return this;
        }

        Ledger local(int k, long v) {
            locals[k] = v;
            return this;
        }

        Ledger global(int g, long v) {
            globals[g] = v;
            return this;
        }

        Ledger pages(int n) {
            pages = n;
            return this;
        }

        Ledger put(int at, long v, int width) {
            for (int k = 0; k < width; k++) {
                bytes[at + k] = (byte) (v >>> 8 * k);
            }
            return this;
        }

        long sum() {
            return 11 + 22 + 100 * locals[0] + 10000 * locals[1] + 1000000 * locals[2] + 100000000 * locals[3];
        }
    }

    public static void main(String[] args) {
        plain();
        variables();
        memory();
        numeric(false);
        numeric(true);
        turned();
        everyInstruction();
        Due.finish();
    }

    /** The deed, which gives nothing, or a value of the type, and which has so many steps. */
    private static void does(String type, String deed, int steps, Ledger due) {
        String kept = type.equals("40") ? "42 00" : type.equals("7F") ? "AC" : "";
        int stepsToKeep = (kept.isEmpty() ? 0 : 1) + 1;
        byte[] module = new Build().type(Build.NONE_TO_I64).type(Build.NONE_TO_NONE)
            .function(0, "02 02 7F 02 7E" + LOCALS + "42 0B 41 16" + deed + kept + "24 00" + SUM + "0B")
            .function(1, "00 41 00 42" + Build.signed(LOW) + "37 00 00 41 00 42" + Build.signed(HIGH) + "37 00 08 0B")
            .memory("01 01 02").global("7E 01 42 00 0B").global("7F 01 41 C8 01 0B").global("7E 01 42 AC 02 0B").bytes();
        for (WaferRunner x : Past.allWith(module)) {
            Due.same("the bytes are put", x.call(FILL), 0);
            Due.same(deed + ": what lies below, and locals", x.call(DEED), due.sum());
            Due.same(deed + ": steps", x.count(5), STEPS_OF_LOCALS + 2 + steps + stepsToKeep + STEPS_OF_SUM);
            for (int g = 0; g < due.globals.length; g++) {
                Due.same(deed + (g == 0 ? ": what it gives" : ": global " + g), x.global(g), due.globals[g]);
            }
            Due.same(deed + ": pages", x.count(4), due.pages);
            for (int i = 0; i < BYTES; i++) {
                Due.same(deed + ": byte " + i, x.memory(i), due.bytes[i] & 255);
            }
            Due.same(deed + ": the last byte", x.memory(due.pages * 65536 - 1), 0);
            Due.same(deed + ": the tape", x.count(0), 7);
            Due.same(deed + ": reason", x.count(1), 0);
        }
        for (byte b : Build.hex(deed)) {
            SEEN.add(b & 255);
        }
    }

    private static void plain() {
        does("40", "01", 1, new Ledger());
        does("40", "41 05 1A", 2, new Ledger());
        does("40", "42 05 1A", 2, new Ledger());
        does("7F", "41 05 42 06 1A", 3, new Ledger().result(5));
        does("7F", "41 05 41 06 41 01 1B", 4, new Ledger().result(5));
        does("7F", "41 05 41 06 41 00 1B", 4, new Ledger().result(6));
        does("7E", "42 05 42 06 41 7F 1B", 4, new Ledger().result(5));
        does("7E", "42 05 42 06 41 00 1B", 4, new Ledger().result(6));
        does("7F", "41 80 80 80 80 78", 1, new Ledger().result(Integer.MIN_VALUE));
        does("7F", "41 FF FF FF FF 07", 1, new Ledger().result(Integer.MAX_VALUE));
        does("7E", "42 80 80 80 80 80 80 80 80 80 7F", 1, new Ledger().result(Long.MIN_VALUE));
        does("7E", "42 FF FF FF FF FF FF FF FF FF 00", 1, new Ledger().result(Long.MAX_VALUE));
    }

    private static void variables() {
        does("7F", "20 00", 1, new Ledger().result(30));
        does("7F", "20 01", 1, new Ledger().result(40));
        does("7E", "20 02", 1, new Ledger().result(50));
        does("7E", "20 03", 1, new Ledger().result(60));
        does("40", "41 05 21 00", 2, new Ledger().local(0, 5));
        does("40", "41 05 21 01", 2, new Ledger().local(1, 5));
        does("40", "42 05 21 02", 2, new Ledger().local(2, 5));
        does("40", "42 05 21 03", 2, new Ledger().local(3, 5));
        does("7F", "41 05 22 00", 2, new Ledger().local(0, 5).result(5));
        does("7F", "41 05 22 01", 2, new Ledger().local(1, 5).result(5));
        does("7E", "42 05 22 02", 2, new Ledger().local(2, 5).result(5));
        does("7E", "42 05 22 03", 2, new Ledger().local(3, 5).result(5));
        does("7E", "23 00", 1, new Ledger());
        does("7F", "23 01", 1, new Ledger().result(200));
        does("7E", "23 02", 1, new Ledger().result(300));
        does("40", "41 7B 24 01", 2, new Ledger().global(1, -5));
        does("40", "42 7B 24 02", 2, new Ledger().global(2, -5));
    }

    private static void memory() {
        does("7F", "41 00 28 02 00", 2, new Ledger().result(0x44332281));
        does("7F", "41 04 28 00 00", 2, new Ledger().result(0x88776655));
        does("7F", "41 01 28 01 04", 2, new Ledger().result(0xF8887766));
        does("7E", "41 00 29 03 00", 2, new Ledger().result(LOW));
        does("7E", "41 03 29 00 01", 2, new Ledger().result(0x4B5A69F888776655L));
        does("7F", "41 00 2C 00 00", 2, new Ledger().result(-127));
        does("7F", "41 01 2C 00 00", 2, new Ledger().result(0x22));
        does("7F", "41 00 2D 00 00", 2, new Ledger().result(129));
        does("7F", "41 01 2D 00 07", 2, new Ledger().result(0xF8));
        does("40", "41 00 41 7E 36 02 00", 3, new Ledger().put(0, -2, 4));
        does("40", "41 03 41 01 36 00 02", 3, new Ledger().put(5, 1, 4));
        does("40", "41 00 42 7E 37 03 00", 3, new Ledger().put(0, -2, 8));
        does("40", "41 01 42 01 37 00 04", 3, new Ledger().put(5, 1, 8));
        does("40", "41 00 41 82 7C 3A 00 00", 3, new Ledger().put(0, 2, 1));
        does("40", "41 0F 41 7F 3A 00 01", 3, new Ledger().put(16, 255, 1));
        does("7F", "3F 00", 1, new Ledger().result(1));
        does("7F", "41 00 40 00", 2, new Ledger().result(1));
        does("7F", "41 01 40 00", 2, new Ledger().result(1).pages(2));
        does("7F", "41 02 40 00", 2, new Ledger().result(-1));
        does("7F", "41 01 40 00 1A 3F 00", 4, new Ledger().result(2).pages(2));
    }

    /** Of 24 alone, and of -7 and 2, in the order of the instructions. */
    private static void numeric(boolean isLong) {
        String constant = isLong ? "42" : "41";
        long[] comparisons = {0, 0, 1, 1, 0, 0, 1, 1, 0, 0, 1};
        for (int k = 0; k < comparisons.length; k++) {
            String op = String.format("%02X", (isLong ? 0x50 : 0x45) + k);
            does("7F", constant + "79" + (k == 0 ? "" : constant + "02") + op, k == 0 ? 2 : 3,
                new Ledger().result(comparisons[k]));
        }
        does("7F", constant + "00" + (isLong ? "50" : "45"), 2, new Ledger().result(1));
        long all = isLong ? -1L >>> 1 : -1 >>> 1;
        long[] counts = {isLong ? 59 : 27, 3, 2};
        long[] joined = {-5, -9, -14, -3, all - 3, -1, 1, 0, -5, -5, -28, -2, all / 2 - 1, -25, all - 1};
        for (int k = 0; k < counts.length + joined.length; k++) {
            String op = String.format("%02X", (isLong ? 0x79 : 0x67) + k);
            boolean takesOne = k < counts.length;
            does(isLong ? "7E" : "7F", takesOne ? constant + "18" + op : constant + "79" + constant + "02" + op,
                takesOne ? 2 : 3, new Ledger().result(takesOne ? counts[k] : joined[k - counts.length]));
        }
    }

    private static void turned() {
        does("7F", "42 80 80 80 80 18 A7", 2, new Ledger().result(Integer.MIN_VALUE));
        does("7F", "42 FF FF FF FF 1F A7", 2, new Ledger().result(-1));
        does("7E", "41 7E AC", 2, new Ledger().result(-2));
        does("7E", "41 7E AD", 2, new Ledger().result(0xFFFFFFFEL));
    }

    /** Each instruction of the document but for those of blocks, branches and calls. */
    private static void everyInstruction() {
        int[][] runs = {{0x01, 0x01}, {0x1A, 0x1B}, {0x20, 0x24}, {0x28, 0x29}, {0x2C, 0x2D}, {0x36, 0x37}, {0x3A, 0x3A},
            {0x3F, 0x42}, {0x45, 0x5A}, {0x67, 0x8A}, {0xA7, 0xA7}, {0xAC, 0xAD}};
        for (int[] run : runs) {
            for (int op = run[0]; op <= run[1]; op++) {
                Due.isTrue("there is a deed for " + Integer.toHexString(op) + " in " + Arrays.toString(run),
                    SEEN.contains(op));
            }
        }
    }
}
