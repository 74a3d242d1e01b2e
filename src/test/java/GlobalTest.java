/** Promise 8: global, and the instructions of promise 7 that touch globals. */
public final class GlobalTest {
    public static void main(String[] args) {
        Build build = new Build().type(Build.I32_TO_NONE).type("60 01 7E 00").type(Build.NONE_TO_I64)
            .function(0, "00 20 00 24 00 0B").function(1, "00 20 00 24 02 0B").function(2, "00 23 02 23 03 7C 0B")
            .global("7F 01 41 80 80 80 80 78 0B").global("7F 00 41 7F 0B")
            .global("7E 01 42 80 80 80 80 80 80 80 80 80 7F 0B").global("7E 00 42 05 0B");
        WaferRunner x = Use.with(build);
        Due.same("count(3)", x.count(3), 4);
        Due.same("the least i32", x.global(0), Integer.MIN_VALUE);
        Due.same("-1", x.global(1), -1);
        Due.same("the least i64", x.global(2), Long.MIN_VALUE);
        Due.same("5", x.global(3), 5);
        for (int g : new int[] {-1, 4, 20, Integer.MIN_VALUE, Integer.MAX_VALUE}) {
            Due.thrown("global(" + g + ")", IllegalArgumentException.class, () -> x.global(g));
        }
        Use.call(x, 0, 0x1_8000_0001L);
        Due.same("an i32 with its sign", x.global(0), -0x7FFFFFFF);
        Due.same("the others stay", x.global(1), -1);
        Use.call(x, 1, 0x1_8000_0001L);
        Due.same("an i64", x.global(2), 0x1_8000_0001L);
        Due.same("global.get", Use.call(x, 2), 0x1_8000_0006L);

        Build twenty = new Build();
        for (int g = 0; g < 20; g++) {
            twenty.global("7F 00 41" + Build.signed(1000 + g) + "0B");
        }
        for (WaferRunner all : Past.allWith(twenty.bytes())) {
            State before = new State(all);
            Due.same("count(3)", all.count(3), 20);
            for (int g = 0; g < 20; g++) {
                Due.same("global " + g, all.global(g), 1000 + g);
            }
            Due.thrown("global(20)", IllegalArgumentException.class, () -> all.global(20));
            Due.thrown("global(-1)", IllegalArgumentException.class, () -> all.global(-1));
            before.stays("global", all);
        }
        WaferRunner none = Use.with(new Build());
        Due.thrown("global(0) of none", IllegalArgumentException.class, () -> none.global(0));
        edges();
        Due.finish();
    }

    /** Each type at its least and its greatest, as it was told, and as it is put. */
    private static void edges() {
        long[] ints = {0, 1, -1, 63, 64, -64, -65, Integer.MAX_VALUE, Integer.MIN_VALUE};
        long[] longs = {0, 1, -1, Integer.MAX_VALUE + 1L, Integer.MIN_VALUE - 1L, Long.MAX_VALUE, Long.MIN_VALUE};
        for (long told : longs) {
            for (long put : ints) {
                byte[] module = new Build().type(Build.I32_TO_NONE).type("60 01 7E 00")
                    .function(0, "00 20 00 24 00 0B").function(1, "00 20 00 24 01 0B")
                    .global("7F 01 41" + Build.signed(put) + "0B").global("7E 01 42" + Build.signed(told) + "0B")
                    .bytes();
                WaferRunner x = Use.with(module);
                Due.same("an i32 as told", x.global(0), put);
                Due.same("an i64 as told", x.global(1), told);
                Use.call(x, 0, told);
                Use.call(x, 1, put);
                Due.same("an i32 as put", x.global(0), (int) told);
                Due.same("an i64 as put", x.global(1), put);
                Due.same("the same module again", Use.load(x, module), 0);
                Due.same("an i32 as told again", x.global(0), put);
                Due.same("an i64 as told again", x.global(1), told);
            }
        }
    }
}
