/** "THE TAPE has at most 2000 bytes; a call that reads THE TAPE leaves it empty, also if it throws." */
public final class TapeEdgesTest {
    private static final byte[] SEVEN = Build.one(Build.NONE_TO_I32, "00 41 07 0B");
    private static final byte[] NOT_READ = Build.hex(Build.HEAD + "02 01 00");
    private static final byte[] NOT_VALID = Build.one(Build.NONE_TO_I32, "00 42 07 0B");

    public static void main(String[] args) {
        for (int length : new int[] {0, 1, 19, 20, 21, 1959, 1960, 1961, 1979, 1980}) {
            feedIsTaken(length);
        }
        for (int length : new int[] {1981, 1982, 1990, 1999, 2000}) {
            feedIsRefused(length);
        }
        endIsTakenOrRefused();
        whatReadsEmpties();
        whatDoesNotReadLeaves();
        eachByteHasItsPlace();
        Due.finish();
    }

    /** A module of just so many bytes. */
    private static byte[] filled(int length) {
        String head = Build.HEAD + Build.section(1, "01 60 00 00") + Build.section(3, "01 00")
            + Build.section(10, "01 02 00 0B");
        int rest = length - Build.hex(head).length;
        for (int size = rest - 1; size > 0; size--) {
            byte[] whole = Build.hex(head + Build.section(0, "00" + Build.times(size - 1, "AA")));
            if (whole.length == length) {
                return whole;
            }
        }
        throw new IllegalArgumentException("no module of " + length);
    }

    private static void feedIsTaken(int length) {
        for (WaferRunner x : Past.all()) {
            Use.tape(x, new byte[length]);
            State before = new State(x);
            Due.same("feed behind " + length, x.feed(-1, -1, -1, -1, -1), length + 20);
            Due.same("count(0)", x.count(0), length + 20);
            before.stays("feed", x, 0);
        }
    }

    private static void feedIsRefused(int length) {
        byte[] module = filled(length);
        for (WaferRunner x : Past.all()) {
            Use.tape(x, module);
            State before = new State(x);
            for (int k = 0; k < 2; k++) {
                Due.thrown("feed behind " + length, IndexOutOfBoundsException.class, () -> x.feed(-1, -1, -1, -1, -1));
                before.stays("a feed that is refused", x);
            }
            Due.same("the bytes are as they were", x.module(), 1);
            Due.same("the tape has room again", x.feed(0, 0, 0, 0, 0), 20);
        }
    }

    private static void endIsTakenOrRefused() {
        for (int length : new int[] {0, 1, 20, 33, 1999, 2000}) {
            for (WaferRunner x : Past.all()) {
                Use.tape(x, new byte[length]);
                State before = new State(x);
                for (int n : new int[] {-1, Integer.MIN_VALUE, length + 1, length + 20, Integer.MAX_VALUE}) {
                    Due.thrown("end(" + n + ") of " + length, IllegalArgumentException.class, () -> x.end(n));
                }
                before.stays("an end that is refused", x);
                Due.same("end(" + length + ")", x.end(length), length);
                before.stays("an end that keeps all", x);
                if (length > 0) {
                    Due.same("end(" + (length - 1) + ")", x.end(length - 1), length - 1);
                    Due.thrown("what went does not come back", IllegalArgumentException.class, () -> x.end(length));
                    Due.same("count(0)", x.count(0), length - 1);
                }
                Due.same("end(0)", x.end(0), 0);
                Due.thrown("end(1) of none", IllegalArgumentException.class, () -> x.end(1));
                before.stays("end", x, 0);
            }
        }
    }

    private static void isEmpty(String what, WaferRunner x, int length) {
        Due.same(what + ": count(0)", x.count(0), 0);
        Due.thrown(what + ": end(1)", IllegalArgumentException.class, () -> x.end(1));
        Due.thrown(what + ": end(length)", IllegalArgumentException.class, () -> x.end(length));
        Due.same(what + ": end(0)", x.end(0), 0);
        Due.same(what + ": feed", x.feed(1, 2, 3, 4, 5), 20);
        x.end(0);
    }

    private static void whatReadsEmpties() {
        for (WaferRunner x : Past.all()) {
            Use.tape(x, new byte[] {0x6E, 0x65, 0x78, 0x74});
            int found = x.find();
            Due.same("find with or without a module", found, x.count(2) < 0 ? -1 : 0);
            isEmpty("find", x, 4);
            Use.tape(x, new byte[100]);
            Due.same("find of no name", x.find(), -1);
            isEmpty("find of no name", x, 100);
            Use.tape(x, NOT_READ);
            Due.thrown("not read", UnsupportedOperationException.class, () -> x.module());
            isEmpty("a module that is not read", x, NOT_READ.length);
            Use.tape(x, NOT_VALID);
            Due.thrown("not valid", UnsupportedOperationException.class, () -> x.module());
            isEmpty("a module that is not valid", x, NOT_VALID.length);
            Use.tape(x, SEVEN);
            Due.same("a module", x.module(), 1);
            isEmpty("a module", x, SEVEN.length);
            Due.thrown("the tape is not read twice", UnsupportedOperationException.class, () -> x.module());
            Due.same("no bytes are no module", x.count(1), 1);
        }
    }

    private static void whatDoesNotReadLeaves() {
        for (WaferRunner x : Past.all()) {
            boolean isNew = x.count(2) < 0;
            Class<? extends RuntimeException> first =
                isNew ? IllegalStateException.class : IllegalArgumentException.class;
            Use.tape(x, SEVEN);
            for (int k = x.count(6); k < 8; k++) {
                x.argument(k);
            }
            Due.thrown("a ninth argument", IndexOutOfBoundsException.class, () -> x.argument(8));
            Due.thrown("a function that is not there", first, () -> x.call(99));
            Due.thrown("a global that is not there", first, () -> x.global(99));
            Due.thrown("a byte that is not there", first, () -> x.memory(-1));
            Due.thrown("a count that is not there", IllegalArgumentException.class, () -> x.count(7));
            Due.thrown("an end that is not there", IllegalArgumentException.class, () -> x.end(2000));
            Due.thrown("eight for none", first, () -> x.call(0));
            if (!isNew) {
                Due.same("a call", x.call(0), 102);
                Due.thrown("a call that is ended", ArithmeticException.class, () -> x.call(2));
                Due.same("a global", x.global(0), 102);
                Due.same("a byte", x.memory(65532), 102);
            }
            Due.same("the tape's length", x.count(0), SEVEN.length);
            Due.same("the tape's bytes", x.module(), 1);
        }
    }

    /** Twenty bytes as a name: with any one of them changed it is another. */
    private static void eachByteHasItsPlace() {
        int[] ints = {0x80818283, 0x04050607, 0xF8F9FAFB, 0x7C7D7E7F, 0x20212223};
        StringBuilder name = new StringBuilder();
        for (int one : ints) {
            for (int shift = 24; shift >= 0; shift -= 8) {
                name.append((char) (one >> shift & 255));
            }
        }
        byte[] module = new Build().type(Build.NONE_TO_NONE).function(0, "00 0B").export(name.toString(), 0, 0).bytes();
        for (WaferRunner x : Past.all()) {
            Due.same("a module", Use.load(x, module), 0);
            Due.same("feed", x.feed(ints[0], ints[1], ints[2], ints[3], ints[4]), 20);
            Due.same("the name", x.find(), 0);
            for (int k = 0; k < 20; k++) {
                int[] other = ints.clone();
                other[k / 4] ^= 1 << 8 * (k % 4);
                x.feed(other[0], other[1], other[2], other[3], other[4]);
                Due.same("another name", x.find(), -1);
            }
        }
    }
}
