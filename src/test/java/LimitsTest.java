/** Promise 7: what ends a run for want of calls, of room or of steps (reasons 7 and 8). */
public final class LimitsTest {
    private static final int STEPS = 100000;
    private static final int ROOM = 12096;

    public static void main(String[] args) {
        calls();
        values();
        locals();
        roomIsGivenBack();
        steps();
        Due.finish();
    }

    private static void calls() {
        // f(n) = n == 0 ? 0 : f(n - 1) + 1: n + 1 calls within one another
        WaferRunner x = Use.with(Build.one(Build.I32_TO_I32,
            "00 20 00 04 7F 20 00 41 01 6B 10 00 41 01 6A 05 41 00 0B 0B"));
        Use.answers("100 calls", x, 99, 99);
        Due.same("steps", x.count(5), 3 + 99 * 8);
        Use.ends("101 calls", x, 7, 100);
        Due.same("steps", x.count(5), 100 * 6);
        Use.answers("100 calls again", x, 99, 99);
        WaferRunner endless = Use.with(Build.one(Build.NONE_TO_NONE, "00 10 00 0B"));
        Use.ends("calls without end", endless, 7);
        Due.same("steps", endless.count(5), 100);
        // Calls one after the other are not within one another.
        WaferRunner row = Use.with(new Build().type(Build.NONE_TO_NONE)
            .function(0, "00" + Build.times(300, "10 01") + "0B").function(0, "00 0B"));
        Use.answers("300 calls in a row", row, 0);
        Due.same("steps", row.count(5), 300);
    }

    /** A function that puts so many values on the stack, calls itself while its argument lasts, and drops all. */
    private static Build heaps(int values, int locals) {
        return new Build().type(Build.I32_TO_NONE).function(0,
            (locals == 0 ? "00" : "01" + Build.number(locals) + "7E") + Build.times(values, "20 00")
                + "20 00 04 40 20 00 41 01 6B 10 00 0B" + Build.times(values, "1A") + "0B");
    }

    private static void values() {
        // Each call has its parameter and 199 values; the innermost one needs a value more for its if.
        WaferRunner x = Use.with(heaps(199, 0));
        Use.answers("60 calls of 200", x, 0, 59);
        // 60 calls have 12000; 96 is what is left.
        Use.ends("the 61st call", x, 7, 60);
        int stepsOfACall = 199 + 2 + 4;
        Due.same("steps to the value without room", x.count(5), 60 * stepsOfACall + 96);

        // One call of 96 beyond 60 of 200 fills it to the last place.
        Build exact = new Build().type(Build.I32_TO_NONE).type(Build.NONE_TO_NONE)
            .function(0, "00" + Build.times(199, "20 00") + "20 00 04 40 20 00 41 01 6B 10 00 05 10 01 0B"
                + Build.times(199, "1A") + "0B")
            .function(1, "00" + Build.times(96, "41 00") + Build.times(96, "1A") + "0B");
        WaferRunner full = Use.with(exact);
        Use.answers("12096 values", full, 0, 59);
        Build beyond = new Build().type(Build.I32_TO_NONE).type(Build.NONE_TO_NONE)
            .function(0, "00" + Build.times(199, "20 00") + "20 00 04 40 20 00 41 01 6B 10 00 05 10 01 0B"
                + Build.times(199, "1A") + "0B")
            .function(1, "00" + Build.times(97, "41 00") + Build.times(97, "1A") + "0B");
        WaferRunner over = Use.with(beyond);
        Use.ends("12097 values", over, 7, 59);
        Due.same("steps", over.count(5), 60 * 201 + 59 * 4 + 1 + 97);
        Due.same("12096 = 60 * 200 + 96", 60 * 200 + 96, ROOM);
    }

    private static void locals() {
        // Each call has a parameter, 60 locals and 139 values: 200 again; the 61st has room for 35 values.
        WaferRunner x = Use.with(heaps(139, 60));
        Use.answers("60 calls of 200", x, 0, 59);
        Use.ends("the 61st call", x, 7, 60);
        Due.same("steps", x.count(5), 60 * (139 + 2 + 4) + 35 + 1);

        WaferRunner y = Use.with(heaps(60, 60));
        Use.answers("99 calls of 121", y, 0, 98);
        Use.ends("100 calls of 121", y, 7, 99);
        Due.same("steps", y.count(5), 99 * (60 + 2 + 4) + (ROOM - 99 * 121 - 61) + 1);

        // What is left behind 60 calls of 200 is 96, for values and for the locals of one more call.
        for (int locals = 59; locals <= 60; locals++) {
            for (int below = 35; below <= 37; below++) {
                Build edge = new Build().type(Build.I32_TO_NONE).type(Build.NONE_TO_NONE)
                    .function(0, "00" + Build.times(199, "20 00") + "20 00 04 40 20 00 41 01 6B 10 00 05"
                        + Build.times(below, "41 00") + "10 01" + Build.times(below, "1A") + "0B"
                        + Build.times(199, "1A") + "0B")
                    .function(1, "01" + Build.number(locals) + "7F 0B");
                WaferRunner z = Use.with(edge);
                if (below + locals <= 96) {
                    Use.answers(below + " values and " + locals + " locals", z, 0, 59);
                } else {
                    Use.ends(below + " values and " + locals + " locals", z, 7, 59);
                }
            }
        }
    }

    private static void roomIsGivenBack() {
        WaferRunner x = Use.with(heaps(110, 0));
        for (int round = 0; round < 5; round++) {
            Use.answers("99 calls of 111", x, 0, 98);
        }
        // A loop that leaves values behind each time round takes no more room for it.
        WaferRunner loop = Use.with(Build.one(Build.I32_TO_I32,
            "00 03 7F" + Build.times(50, "42 01") + "20 00 41 01 6B 22 00 0D 00" + Build.times(50, "1A") + "20 00 0B 0B"));
        Use.answers("a loop that leaves 50 values 1000 times", loop, 0, 1000);
        // Blocks that are left with values behind them.
        WaferRunner blocks = Use.with(Build.one(Build.I32_TO_I32,
            "00 03 40 02 7F" + Build.times(50, "41 01") + "0C 00 0B 1A 20 00 41 01 6B 22 00 0D 00 0B 20 00 0B"));
        Use.answers("a block that leaves 49 values 1000 times", blocks, 0, 1000);
    }

    private static void steps() {
        // loop: local.get, i32.const, i32.sub, local.tee, br_if; with one step before, and one behind
        WaferRunner x = Use.with(Build.one(Build.I32_TO_I32, "00 03 40 20 00 41 01 6B 22 00 0D 00 0B 20 00 0B"));
        Use.answers("99997 steps", x, 0, 19999);
        Due.same("steps", x.count(5), 99997);
        Use.ends("100002 steps", x, 8, 20000);
        Due.same("the step that ended it is the 100001st", x.count(5), STEPS + 1);
        for (int nops = 1; nops <= 5; nops++) {
            WaferRunner y = Use.with(Build.one(Build.I32_TO_I32,
                "00 03 40 20 00 41 01 6B 22 00 0D 00 0B 20 00" + Build.times(nops, "01") + "0B"));
            if (nops <= 3) {
                Use.answers(nops + " steps more", y, 0, 19999);
                Due.same("steps", y.count(5), 99997 + nops);
            } else {
                Use.ends(nops + " steps more", y, 8, 19999);
                Due.same("steps", y.count(5), STEPS + 1);
            }
        }
        WaferRunner endless = Use.with(new Build().type(Build.NONE_TO_NONE)
            .function(0, "00 03 40 23 00 42 01 7C 24 00 0C 00 0B 0B").global("7E 01 42 00 0B"));
        Use.ends("a loop without end", endless, 8);
        Due.same("steps", endless.count(5), STEPS + 1);
        Due.same("what it put till then", endless.global(0), 20000);
        // The 100001st step is not done, whatever it would be.
        WaferRunner last = Use.with(Build.one(Build.I32_TO_I32,
            "00 03 40 20 00 41 01 6B 22 00 0D 00 0B 01 01 01 01 00 0B"));
        Use.ends("unreachable as the 100001st", last, 8, 19999);
        WaferRunner before = Use.with(Build.one(Build.I32_TO_I32,
            "00 03 40 20 00 41 01 6B 22 00 0D 00 0B 01 01 01 00 0B"));
        Use.ends("unreachable as the 100000th", before, 3, 19999);
        Due.same("steps", before.count(5), STEPS);
        // Ends and elses are no steps, however many there are.
        WaferRunner ends = Use.with(Build.one(Build.NONE_TO_NONE,
            "00 03 40" + Build.times(99, "02 40") + Build.times(99, "0B") + "0C 00 0B 0B"));
        Use.ends("blocks without end", ends, 8);
        WaferRunner elses = Use.with(Build.one(Build.NONE_TO_NONE,
            "00 03 40 41 01 04 40 05 0B 0C 00 0B 0B"));
        Use.ends("elses without end", elses, 8);
    }
}
