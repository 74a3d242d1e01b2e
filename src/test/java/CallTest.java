/** Promises 6 and 7: arguments, and how call takes them and answers. */
public final class CallTest {
    public static void main(String[] args) {
        argumentsHaveABound();
        whatIsThrown();
        argumentsAsParameters();
        results();
        callsWithinCalls();
        Due.finish();
    }

    private static void argumentsHaveABound() {
        WaferRunner x = new WaferRunner();
        for (int k = 1; k <= 8; k++) {
            Due.same("argument no. " + k, x.argument(k * 1000000007L), k);
            Due.same("count(6)", x.count(6), k);
        }
        Due.thrown("the ninth argument", IndexOutOfBoundsException.class, () -> x.argument(9));
        Due.same("count(6)", x.count(6), 8);
        Due.thrown("call without a module", IllegalStateException.class, () -> x.call(0));
        Due.same("arguments stay without a module", x.count(6), 8);
        Due.same("reason", Use.load(x, Build.one("60 08 7E 7E 7E 7E 7E 7E 7E 7E 01 7E",
            "00 20 00 20 01 7C 20 02 7C 20 03 7C 20 04 7C 20 05 7C 20 06 7C 20 07 7D 0B")), 0);
        Due.same("all eight", x.call(0), (28 - 8) * 1000000007L);
        Due.same("none is left", x.count(6), 0);
    }

    private static void whatIsThrown() {
        WaferRunner x = Use.with(new Build().type(Build.I32_TO_I32).type(Build.NONE_TO_NONE)
            .function(0, "00 41 0A 20 00 6D 0B").function(1, "00 01 0B"));
        Use.answers("ten by", x, 5, 2);
        Due.same("steps", x.count(5), 3);
        x.argument(1);
        for (int f : new int[] {-1, 2, 3, Integer.MAX_VALUE, Integer.MIN_VALUE}) {
            Due.thrown("call(" + f + ")", IllegalArgumentException.class, () -> x.call(f));
            Due.same("arguments stay", x.count(6), 1);
        }
        Due.thrown("one argument too many", IllegalArgumentException.class, () -> x.call(1));
        Due.same("arguments go", x.count(6), 0);
        Due.thrown("one argument too few", IllegalArgumentException.class, () -> x.call(0));
        Due.same("a call that did not begin has no steps", x.count(5), 3);
        Use.ends("ten by zero", x, 4, 0);
        x.argument(1);
        x.argument(1);
        Due.thrown("two for one", IllegalArgumentException.class, () -> x.call(0));
        Due.same("arguments go", x.count(6), 0);
        Due.same("a call that did not begin has no reason", x.count(1), 4);
        Due.same("nothing", x.call(1), 0);
        Due.same("the reason is none now", x.count(1), 0);
        Due.same("steps", x.count(5), 1);
    }

    private static void argumentsAsParameters() {
        Use.runs("the lowest 32 bits", Build.I32_TO_I32, "00 20 00 0B", -1, 0x7FFFFFFFFFFFFFFFL);
        Use.runs("the lowest 32 bits", Build.I32_TO_I32, "00 20 00 0B", 5, 0xABCDEF0000000005L);
        Use.runs("the lowest 32 bits", Build.I32_TO_I32, "00 20 00 0B", -2147483648L, 0x80000000L);
        Use.runs("the lowest 32 bits, without sign", Build.I32_TO_I64, "00 20 00 AD 0B", 0xFFFFFFFEL, -2);
        Use.runs("the lowest 32 bits, with sign", Build.I32_TO_I64, "00 20 00 AC 0B", -2, 0xFFFFFFFEL);
        Use.runs("none of the highest", Build.I32_TO_I32, "00 20 00 45 0B", 1, 0x100000000L);
        Use.runs("all 64 bits", Build.I64_TO_I64, "00 20 00 0B", Long.MIN_VALUE, Long.MIN_VALUE);
        Use.runs("the first", "60 02 7E 7F 01 7E", "00 20 00 0B", 1L << 40, 1L << 40, 7);
        Use.runs("the second", "60 02 7E 7F 01 7F", "00 20 01 0B", 7, 1L << 40, (1L << 40) + 7);
        Use.runs("a local is 0", "60 01 7F 01 7E", "02 02 7F 01 7E 20 03 0B", 0, 99);
        Use.runs("a parameter can be put", Build.I32_TO_I32, "00 41 09 21 00 20 00 0B", 9, 1);
    }

    private static void results() {
        Use.runs("no result", Build.NONE_TO_NONE, "00 41 07 1A 0B", 0);
        Use.runs("no result with an argument", Build.I32_TO_NONE, "00 0B", 0, 77);
        Use.runs("an i32 with its sign", Build.NONE_TO_I32, "00 41 7F 0B", -1);
        Use.runs("the least i32", Build.NONE_TO_I32, "00 41 80 80 80 80 78 0B", Integer.MIN_VALUE);
        Use.runs("the greatest i32", Build.NONE_TO_I32, "00 41 FF FF FF FF 07 0B", Integer.MAX_VALUE);
        Use.runs("the least i64", Build.NONE_TO_I64, "00 42 80 80 80 80 80 80 80 80 80 7F 0B", Long.MIN_VALUE);
        Use.runs("the greatest i64", Build.NONE_TO_I64, "00 42 FF FF FF FF FF FF FF FF FF 00 0B", Long.MAX_VALUE);
        Use.runs("a small i64", Build.NONE_TO_I64, "00 42 80 7F 0B", -128);
        Use.runs("an i32 in more bytes than it needs", Build.NONE_TO_I32, "00 41 FF FF 7F 0B", -1);
        Use.runs("an i32 that grew too great", Build.NONE_TO_I32, "00 41 FF FF FF FF 07 41 01 6A 0B",
            Integer.MIN_VALUE);
    }

    private static void callsWithinCalls() {
        WaferRunner x = Use.with(new Build().type("60 02 7F 7E 01 7E").type(Build.I64_TO_I64).type(Build.NONE_TO_NONE)
            // f0(a, b) = a + 10 * f1(b), with something below on the stack
            .function(0, "01 01 7E 42 E4 00 20 00 AC 42 0A 20 01 10 01 7E 7C 7C 10 02 0B")
            .function(1, "01 01 7E 20 00 22 01 20 01 7E 0B")
            .function(2, "01 03 7E 42 63 21 00 0B"));
        Use.answers("a + 10 b b + 100", x, 5 + 490 + 100, 5, 7);
        Due.same("steps", x.count(5), 10 + 4 + 2);

        WaferRunner factorial = Use.with(Build.one(Build.I64_TO_I64,
            "00 20 00 50 04 7E 42 01 05 20 00 20 00 42 01 7D 10 00 7E 0B 0B"));
        Use.answers("factorial", factorial, 1, 0);
        Due.same("steps", factorial.count(5), 4);
        Use.answers("factorial", factorial, 2432902008176640000L, 20);
        Due.same("steps", factorial.count(5), 4 + 20 * 9);

        // A branch keeps what lies below, also in the function behind one with a result.
        WaferRunner second = Use.with(new Build().type(Build.NONE_TO_I32).function(0, "00 41 07 0B")
            .function(0, "00 41 64 02 7F 41 01 41 02 0C 00 0B 6A 0B"));
        Due.same("the second function", Use.call(second, 1), -28 + 2);

        branchesBehindCalls();
        WaferRunner locals = Use.with(new Build().type(Build.I32_TO_I32)
            .function(0, "01 01 7F 20 01 20 00 45 0D 00 1A 41 09 21 01 20 00 41 01 6B 10 00 20 01 6A 0B"));
        Use.answers("locals are 0 in each call", locals, 27, 3);
    }

    /** What a branch leaves is the caller's own, however much the function that was called had. */
    private static void branchesBehindCalls() {
        String[] callees = {"00 20 00 0B", "01 09 7F 20 00 0B", "01 3C 7E 42 01 42 02 20 00 0F 0B",
            "01 01 7F 02 7F 41 01 20 00 0C 01 0B 0B"};
        String[] callers = {
            // 100 + n by a branch out of a block, a branch that may be passed, a table, and a loop's next round
            "41 E4 00 02 7F 41 01 41 02 20 00 10 01 0C 00 0B 6A",
            "41 E4 00 02 7F 41 01 41 02 20 00 10 01 41 01 0D 00 6A 6A 0B 6A",
            "41 E4 00 02 7F 41 01 41 02 20 00 10 01 41 05 0E 01 00 00 0B 6A",
            "41 E4 00 20 00 10 01 03 7F 41 07 41 08 20 00 10 01 1A 20 01 45 04 40 41 01 21 01 0C 01 0B 1A 0B 1A 6A"
        };
        for (String callee : callees) {
            for (String caller : callers) {
                for (String locals : new String[] {"01 01 7F", "02 02 7F 14 7E"}) {
                    Build build = new Build().type(Build.I32_TO_I32).function(0, locals + caller + "0B")
                        .function(0, callee);
                    for (WaferRunner x : Past.allWith(build.bytes())) {
                        Use.answers("100 and", x, 123, 23);
                    }
                }
            }
        }
    }
}
