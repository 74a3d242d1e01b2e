/** Promise 7: blocks, branches, variables, and what counts as a step. */
public final class ControlTest {
    private static final String NOTHING = Build.NONE_TO_NONE;
    private static final String CHOOSES = Build.I32_TO_I32;

    public static void main(String[] args) {
        steps();
        ifs();
        loops();
        branchesWithValues();
        tables();
        returns();
        variables();
        endings();
        Due.finish();
    }

    private static void takes(String what, String type, String code, long want, int steps, long... arguments) {
        for (WaferRunner x : Past.allWith(Build.one(type, code))) {
            State before = new State(x);
            Use.answers(what, x, want, arguments);
            Due.same(what + ": steps", x.count(5), steps);
            before.stays(what, x, 1, 5);
        }
    }

    private static void steps() {
        takes("nothing", NOTHING, "00 0B", 0, 0);
        takes("nop", NOTHING, "00 01 01 01 0B", 0, 3);
        takes("a block", NOTHING, "00 02 40 0B 0B", 0, 1);
        takes("a loop", NOTHING, "00 03 40 01 0B 01 0B", 0, 3);
        takes("blocks within one another", NOTHING, "00 02 40 02 40 02 40 0B 0B 0B 0B", 0, 3);
        takes("a branch out of all", NOTHING, "00 02 40 02 40 0C 01 01 0B 01 0B 01 0B", 0, 4);
        takes("a return", NOTHING, "00 01 0F 01 0B", 0, 2);
    }

    private static void ifs() {
        String both = "00 20 00 04 7F 41 01 01 05 41 02 01 01 0B 0B";
        takes("if", CHOOSES, both, 1, 4, 1);
        takes("if", CHOOSES, both, 1, 4, -1);
        takes("if", CHOOSES, both, 1, 4, 0x80000000L);
        takes("else", CHOOSES, both, 2, 5, 0);
        takes("else by the lowest bits", CHOOSES, both, 2, 5, 1L << 32);
        String without = "00 20 00 04 40 41 07 21 00 0B 20 00 0B";
        takes("if without else", CHOOSES, without, 7, 5, 3);
        takes("if without else, passed over", CHOOSES, without, 0, 3, 0);
        String emptyElse = "00 20 00 04 40 41 07 21 00 05 0B 20 00 0B";
        takes("an empty else", CHOOSES, emptyElse, 7, 5, 3);
        takes("an empty else", CHOOSES, emptyElse, 0, 3, 0);
        String within = "00 20 00 04 7F 20 00 41 01 46 04 7F 41 0A 05 41 0B 0B 05 20 00 45 04 7F 41 0C 05 41 0D 0B 0B 0B";
        takes("an if in an if", CHOOSES, within, 10, 7, 1);
        takes("an else in an if", CHOOSES, within, 11, 7, 2);
        takes("an if in an else", CHOOSES, within, 12, 6, 0);
        String leaves = "00 02 7F 41 05 20 00 04 40 41 06 0C 01 05 41 07 0C 01 0B 0B 0B";
        takes("a branch out of an if", CHOOSES, leaves, 6, 6, 1);
        takes("a branch out of an else", CHOOSES, leaves, 7, 6, 0);
        takes("a branch to the if itself", CHOOSES, "00 20 00 04 7F 41 08 0C 00 05 41 09 0C 00 0B 0B", 8, 4, 1);
        takes("a branch to the if from else", CHOOSES, "00 20 00 04 7F 41 08 0C 00 05 41 09 0C 00 0B 0B", 9, 4, 0);
    }

    private static void loops() {
        // s = 0; do { s += n; n -= 1 } while n; the loop itself is one step
        String sum = "01 01 7F 03 40 20 01 20 00 6A 21 01 20 00 41 01 6B 22 00 0D 00 0B 20 01 0B";
        takes("a sum", CHOOSES, sum, 1, 11, 1);
        takes("a sum", CHOOSES, sum, 55, 2 + 9 * 10, 10);
        takes("a loop that is left", CHOOSES, "00 02 40 03 40 20 00 45 0D 01 20 00 41 01 6B 21 00 0C 00 0B 0B 20 00 0B",
            0, 2 + 3 * 8 + 3 + 1, 3);
        takes("a loop drops what was on top", CHOOSES,
            "00 41 E4 00 03 40 20 00 20 00 20 00 41 01 6B 22 00 0D 00 1A 1A 0B 0B", 100, 2 + 5 * 7 + 2, 5);
        takes("a loop with a result", CHOOSES, "00 03 7F 20 00 20 00 41 01 6B 22 00 0D 00 0B 0B", 1, 1 + 4 * 6, 4);
        // A loop in a loop is begun again each time round.
        takes("a loop in a loop", CHOOSES,
            "02 01 7F 01 7F 03 40 41 03 21 01 03 40 20 02 41 01 6A 21 02 20 01 41 01 6B 22 01 0D 00 0B"
                + "20 00 41 01 6B 22 00 0D 00 0B 20 02 0B", 12, 1 + 4 * (2 + 1 + 3 * 9 + 5) + 1, 4);
    }

    private static void branchesWithValues() {
        takes("br with a value", Build.NONE_TO_I32, "00 02 7F 41 01 41 02 41 03 0C 00 0B 0B", 3, 5);
        takes("br keeps what lies below", Build.NONE_TO_I32, "00 41 64 02 7F 41 01 41 02 0C 00 0B 6A 0B", -26, 6);
        takes("br_if taken", CHOOSES, "00 02 7F 41 05 41 06 20 00 0D 00 6A 0B 0B", 6, 5, 1);
        takes("br_if passed", CHOOSES, "00 02 7F 41 05 41 06 20 00 0D 00 6A 0B 0B", 11, 6, 0);
        takes("br to the function", Build.NONE_TO_I64, "00 42 01 02 40 42 02 0C 01 0B 0B", 2, 4);
        takes("br_if to the function", CHOOSES, "00 02 40 41 07 20 00 0D 01 1A 0B 41 08 0B", 7, 4, 1);
        takes("br_if to the function, passed", CHOOSES, "00 02 40 41 07 20 00 0D 01 1A 0B 41 08 0B", 8, 6, 0);
        takes("an i64 out of two blocks", Build.NONE_TO_I64, "00 02 7E 02 7F 42 09 0C 01 0B AC 0B 0B", 9, 4);
        takes("no value to a loop", Build.NONE_TO_I32,
            "01 01 7F 02 7F 03 40 20 00 41 05 20 00 41 02 4B 0D 01 1A 41 01 6A 21 00 0C 00 0B 00 0B 0B",
            5, 2 + 3 * 11 + 6);
    }

    private static void tables() {
        String code = "00 02 40 02 40 02 40 02 40 20 00 0E 03 03 01 00 02 0B 41 0A 0F 0B 41 0B 0F 0B 41 0C 0F 0B 41 0D 0B";
        long[][] rows = {{0, 13}, {1, 11}, {2, 10}, {3, 12}, {4, 12}, {-1, 12}, {0x7FFFFFFF, 12}, {0x80000000L, 12},
            {0x100000001L, 11}};
        WaferRunner x = Use.with(Build.one(CHOOSES, code));
        for (long[] row : rows) {
            Use.answers("br_table", x, row[1], row[0]);
            Due.same("steps", x.count(5), row[1] == 13 ? 7 : 8);
        }
        takes("a table of one", CHOOSES, "00 02 40 20 00 0E 00 00 0B 41 07 0B", 7, 4, 99);
        takes("a table with a value", CHOOSES, "00 02 7F 02 7F 41 05 20 00 0E 01 00 01 0B 41 0A 6A 0B 0B", 15, 7, 0);
        takes("a table with a value", CHOOSES, "00 02 7F 02 7F 41 05 20 00 0E 01 00 01 0B 41 0A 6A 0B 0B", 5, 5, 1);
        takes("a table to the function", CHOOSES, "00 02 7F 41 05 20 00 0E 01 00 01 0B 41 0A 6A 0B", 5, 4, 1);
        takes("a table to the function", CHOOSES, "00 02 7F 41 05 20 00 0E 01 00 01 0B 41 0A 6A 0B", 15, 6, 0);
        takes("a table to a loop", CHOOSES,
            "00 02 40 03 40 20 00 41 01 6B 22 00 0E 02 01 00 01 0B 0B 20 00 0B", 0, 2 + 2 * 5 + 1, 2);
        // Two tables do not share their labels.
        takes("the second table", CHOOSES, "00 02 40 02 40 41 00 0E 01 00 01 0B 02 40 20 00 0E 02 00 01 00 0B 41 15 0F 0B"
            + "41 16 0B", 22, 8, 1);
    }

    private static void returns() {
        takes("return with more on the stack", Build.NONE_TO_I32, "00 41 01 41 02 41 03 0F 0B", 3, 4);
        takes("return out of blocks", Build.NONE_TO_I64, "00 42 01 02 7F 03 7F 42 05 0F 0B 0B 1A 0B", 5, 5);
        takes("return of nothing", NOTHING, "00 41 01 42 02 0F 0B", 0, 3);
        WaferRunner x = Use.with(new Build().type(Build.I32_TO_I32).function(0, "00 41 64 20 00 10 01 6A 0B")
            .function(0, "01 05 7E 42 01 42 02 41 07 20 00 6C 0F 0B"));
        Use.answers("return into a call", x, -28 + 35, 5);
        Due.same("steps", x.count(5), 10);
    }

    private static void variables() {
        takes("tee keeps", CHOOSES, "01 01 7F 20 00 22 01 20 01 6A 0B", 14, 4, 7);
        takes("set takes", CHOOSES, "01 01 7F 20 00 21 01 20 01 0B", 7, 3, 7);
        takes("the last local", CHOOSES, "01 3C 7F 20 00 21 3C 20 3C 20 3B 6A 0B", 7, 5, 7);
        takes("drop", Build.NONE_TO_I32, "00 41 01 41 02 1A 0B", 1, 3);
        takes("select the first", CHOOSES, "00 41 01 41 02 20 00 1B 0B", 1, 4, 5);
        takes("select the second", CHOOSES, "00 41 01 41 02 20 00 1B 0B", 2, 4, 0);
        takes("select an i64", Build.I32_TO_I64, "00 42 01 42 02 20 00 1B 0B", 2, 4, 1L << 32);
    }

    private static void endings() {
        WaferRunner x = Use.with(new Build().type(Build.I32_TO_I32)
            .function(0, "00 20 00 24 00 41 00 20 00 36 02 00 41 01 40 00 1A 20 00 04 40 00 0B 41 05 20 00 6D 0B")
            .memory("00 01").global("7F 01 41 07 0B"));
        Use.ends("unreachable", x, 3, 0x01020304);
        Due.same("steps", x.count(5), 11);
        Due.same("the global stays", x.global(0), 0x01020304);
        Due.same("the memory stays", x.memory(0), 4);
        Due.same("the pages stay", x.count(4), 2);
        Use.ends("by zero", x, 4, 0);
        Due.same("steps", x.count(5), 13);
        Due.same("the global stays", x.global(0), 0);
        Due.same("the memory stays", x.memory(0), 0);
        WaferRunner within = Use.with(new Build().type(NOTHING).type(Build.NONE_TO_I32).function(0, "00 10 01 0B")
            .function(0, "00 41 09 24 00 00 0B").function(1, "00 23 00 0B").global("7F 01 41 07 0B"));
        Use.ends("unreachable in a call", within, 3);
        Due.same("steps", within.count(5), 4);
        Due.same("a call behind one that was ended", Use.call(within, 2), 9);
        Due.same("its steps", within.count(5), 1);
        Due.same("its reason", within.count(1), 0);
    }
}
