/** Promise 10: count. */
public final class CountTest {
    public static void main(String[] args) {
        WaferRunner x = new WaferRunner();
        for (int what : new int[] {-1, 7, 8, Integer.MIN_VALUE, Integer.MAX_VALUE}) {
            Due.thrown("count(" + what + ")", IllegalArgumentException.class, () -> x.count(what));
        }
        are(x, "new", 0, 0, -1, -1, -1, 0, 0);
        x.feed(0, 0, 0, 0, 0);
        x.argument(1);
        are(x, "fed", 20, 0, -1, -1, -1, 0, 1);
        Due.same("not a module", Use.load(x, new byte[1]), 1);
        are(x, "no module yet", 0, 1, -1, -1, -1, 0, 1);
        Due.same("not valid", Use.load(x, new Build().function(0, "00 0B").bytes()), 2);
        are(x, "no module yet", 0, 2, -1, -1, -1, 0, 1);
        byte[] module = new Build().type(Build.I32_TO_I32).type(Build.NONE_TO_NONE)
            .function(0, "00 41 01 20 00 6D 0B").function(1, "00 01 01 01 01 0B").function(1, "00 01 00 0B")
            .memory("00 02").global("7F 00 41 00 0B").bytes();
        Due.same("a module", Use.load(x, module), 0);
        are(x, "a module", 0, 0, 3, 1, 2, 0, 1);
        Due.same("call", x.call(0), 1);
        are(x, "a call", 0, 0, 3, 1, 2, 3, 0);
        Due.thrown("by zero", ArithmeticException.class, () -> Use.call(x, 0, 0));
        are(x, "a call that was ended", 0, 4, 3, 1, 2, 3, 0);
        Due.thrown("no argument", IllegalArgumentException.class, () -> x.call(0));
        are(x, "a call that did not begin", 0, 4, 3, 1, 2, 3, 0);
        x.feed(1, 2, 3, 4, 5);
        x.end(3);
        are(x, "three bytes", 3, 4, 3, 1, 2, 3, 0);
        Due.same("find", x.find(), -1);
        are(x, "find", 0, 4, 3, 1, 2, 3, 0);
        Due.same("call", x.call(1), 0);
        are(x, "a call without an end of its own", 0, 0, 3, 1, 2, 4, 0);
        Due.thrown("unreachable", ArithmeticException.class, () -> x.call(2));
        are(x, "unreachable", 0, 3, 3, 1, 2, 2, 0);
        Due.thrown("not a module", UnsupportedOperationException.class, () -> x.module());
        are(x, "a module that was none", 0, 1, 3, 1, 2, 2, 0);
        Due.same("a head", Use.load(x, Build.hex(Build.HEAD)), 0);
        are(x, "a head", 0, 0, 0, 0, 0, 2, 0);
        withAPast();
        Due.finish();
    }

    private static void withAPast() {
        WaferRunner x = Past.used();
        are(x, "a past", 7, 3, 8, 3, 2, 6, 3);
        Due.same("a call", x.call(1), 567);
        are(x, "a call", 7, 0, 8, 3, 2, 10, 0);
        Due.thrown("not read", UnsupportedOperationException.class, () -> x.module());
        are(x, "not read", 0, 1, 8, 3, 2, 10, 0);
        Due.thrown("calls without end", ArithmeticException.class, () -> x.call(6));
        are(x, "calls without end", 0, 7, 8, 3, 2, 100, 0);
        Due.thrown("a loop without end", ArithmeticException.class, () -> x.call(3));
        are(x, "a loop without end", 0, 8, 8, 3, 2, 100001, 0);
        Due.thrown("one argument too few", IllegalArgumentException.class, () -> x.call(4));
        are(x, "a call that did not begin", 0, 8, 8, 3, 2, 100001, 0);
        Due.same("not valid", Use.load(x, new Build().memory("00 03").bytes()), 2);
        are(x, "not valid", 0, 2, 8, 3, 2, 100001, 0);
        Due.same("a module", Use.load(x, new Build().memory("00 01").bytes()), 0);
        are(x, "a module", 0, 0, 0, 0, 1, 100001, 0);
    }

    private static void are(WaferRunner x, String when, int... due) {
        for (int what = 0; what < due.length; what++) {
            Due.same(when + ": count(" + what + ")", x.count(what), due[what]);
        }
    }
}
