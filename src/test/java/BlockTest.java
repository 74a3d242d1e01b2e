import java.util.ArrayList;
import java.util.List;

/**
 * RUN: what each kind of block does, of each type there is: by which way it is left, what it gives, what lies below it
 * and stays, and where a branch goes to, from each depth to each block around it.
 */
public final class BlockTest {
    private static final String[] TYPES = {"40", "7F", "7E"};
    private static final String[] TURNED_TO_I64 = {"42 00", "AC", ""};
    private static final long BELOW = 11 + 22;

    /** The kinds of block as they stand around others. */
    private enum Kind {
        BLOCK, LOOP, IF, ELSE;

        String around(String type, String inside, String otherwise) {
            switch (this) {
                case BLOCK:
                    return "02" + type + inside + "0B";
                case LOOP:
                    return "03" + type + inside + "0B";
                case IF:
                    return "41 01 04" + type + inside + (type.equals("40") ? "" : "05" + otherwise) + "0B";
                default:
                    return "41 00 04" + type + otherwise + "05" + inside + "0B";
            }
        }
    }

    public static void main(String[] args) {
        for (int t = 0; t < TYPES.length; t++) {
            waysOut(t);
            conditions(t);
            rounds(t);
            for (Kind outer : Kind.values()) {
                for (Kind middle : Kind.values()) {
                    for (Kind inner : Kind.values()) {
                        branches(t, new Kind[] {inner, middle, outer});
                    }
                }
            }
            functions(t);
        }
        Due.finish();
    }

    /** A value of the type, or nothing. */
    private static String value(int t, long v) {
        return t == 0 ? "" : (t == 1 ? "41" : "42") + Build.signed(v);
    }

    private static String drop(int t) {
        return t == 0 ? "" : "1A";
    }

    /** Two values, then the block, then all of them in one number: what lies below, and a hundred times the block's. */
    private static void gives(String what, int t, String block, long v, long argument) {
        byte[] module = new Build().type(Build.I32_TO_I64)
            .function(0, "02 01 7E 01 7F 42 0B 41 16" + block + TURNED_TO_I64[t]
                + "21 01 AC 7C 20 01 42 E4 00 7E 7C 0B")
            .memory("00 01").global("7E 01 42 05 0B").bytes();
        Twin twin = new Twin();
        twin.bring(module);
        twin.argument(argument);
        Due.same(what + " by the twin", twin.call(0), BELOW + 100 * v);
        for (WaferRunner x : Past.allWith(module)) {
            State before = new State(x);
            Use.answers(what + " of type " + TYPES[t] + ": " + block, x, BELOW + 100 * v, argument);
            Due.same(what + ": steps", x.count(5), twin.count(5));
            before.stays(what, x, 1, 5);
        }
    }

    private static void waysOut(int t) {
        long v = t == 0 ? 0 : 3;
        long other = t == 0 ? 0 : 4;
        for (Kind kind : Kind.values()) {
            gives(kind + " to its end", t, kind.around(TYPES[t], value(t, 3), value(t, 4)), v, 0);
            gives(kind + " with blocks in it", t,
                kind.around(TYPES[t], "02 40 0B 03 40 0B" + value(t, 3) + "02 40 01 0B", value(t, 4)), v, 0);
            gives(kind + " that returns", t, "02" + TYPES[t] + kind.around(TYPES[t], "20 00 04 40 42"
                + Build.signed(BELOW + 100 * v) + "0F 0B" + value(t, 3), value(t, 4)) + "0B", v, 1);
            if (kind == Kind.LOOP) {
                continue;
            }
            // With more on the stack, which goes.
            for (String more : new String[] {"", "41 05", "42 06 41 07 42 08"}) {
                String drops = Build.times(more.isEmpty() ? 0 : more.length() / 5, "1A");
                gives(kind + " left by br", t,
                    kind.around(TYPES[t], more + value(t, 3) + "0C 00" + value(t, 9), value(t, 4)), v, 0);
                gives(kind + " left by br_table", t,
                    kind.around(TYPES[t], more + value(t, 3) + "20 00 0E 02 00 00 00", value(t, 4)), v, 1);
                String maybe = kind.around(TYPES[t],
                    more + value(t, 3) + "20 00 0D 00" + drop(t) + drops + value(t, 4), value(t, 5));
                gives(kind + " left by br_if", t, maybe, v, 1);
                gives(kind + " not left by br_if", t, maybe, other, 0);
                String within = kind.around(TYPES[t], more + "02 40 03 40 42 02" + value(t, 3) + "0C 02 0B 0B"
                    + "00", value(t, 4));
                gives(kind + " left from two blocks within", t, within, v, 0);
            }
        }
    }

    private static void conditions(int t) {
        long v = t == 0 ? 0 : 3;
        long other = t == 0 ? 0 : 4;
        String both = "20 00 04" + TYPES[t] + value(t, 3) + "05" + value(t, 4) + "0B";
        for (long argument : new long[] {1, -1, 2, Integer.MIN_VALUE, 1L << 31, -1L << 31}) {
            gives("if", t, both, v, argument);
        }
        for (long argument : new long[] {0, 1L << 32, -1L << 32, Long.MIN_VALUE}) {
            gives("else", t, both, other, argument);
        }
        if (t == 0) {
            // Without else there is nothing to be done; with it the local says which part was gone through.
            for (String part : new String[] {"", "05"}) {
                String code = "02 7F 20 00 04 40 41 07 21 00" + part + "0B 20 00 0B";
                gives("an if that is gone through", 1, code, 7, 5);
                gives("an if that is passed over", 1, code, 0, 0);
            }
            String code = "02 7F 20 00 04 40 41 07 21 00 05 41 08 21 00 0B 20 00 0B";
            gives("an if with else", 1, code, 7, 5);
            gives("an if with else", 1, code, 8, 0);
        }
    }

    /** A branch to a loop begins it anew, with nothing on the stack but what lay there at first. */
    private static void rounds(int t) {
        long v = t == 0 ? 0 : 3;
        for (String more : new String[] {"", "41 05", "42 06 41 07 42 08"}) {
            String drops = Build.times(more.isEmpty() ? 0 : more.length() / 5, "1A");
            String counted = "20 02 41 01 6A 22 02 20 00 48";
            for (int n = 1; n <= 4; n++) {
                gives("a loop of " + n, t, "03" + TYPES[t] + more + counted + "0D 00" + drops + value(t, 3) + "0B", v, n);
                gives("a loop of " + n + " by br", t, "03" + TYPES[t] + more + counted + "04 40 41 09 0C 01 0B" + drops
                    + value(t, 3) + "0B", v, n);
                gives("a loop of " + n + " by br_table", t, "02" + TYPES[t] + "03 40" + more
                    + "02 40 20 02 41 01 6A 22 02 20 00 46 0E 01 01 00 0B" + drops + value(t, 3) + "0C 01 0B"
                    + (t == 0 ? "" : "00") + "0B", v, n);
                gives("the rounds of a loop of " + n, 1, "02 7F 03 40" + more + counted + "0D 00" + drops
                    + "0B 20 02 0B", n, n);
            }
        }
    }

    /** From within three blocks to each of them, and to the function, which lies outermost. */
    private static void branches(int t, Kind[] kinds) {
        for (int to = 0; to <= kinds.length; to++) {
            boolean toLoop = to < kinds.length && kinds[to] == Kind.LOOP;
            int carried = toLoop ? 0 : t;
            String more = "42 06 41 07" + value(carried, 7);
            goes(t, kinds, to, "br", more + "0C" + Build.number(to + 1));
            goes(t, kinds, to, "br_if", more + "41 01 0D" + Build.number(to + 1) + "00");
            // The table has all blocks to which the same can be carried; the one that is meant stands where it stands.
            List<Integer> labels = new ArrayList<>();
            for (int k = 0; k <= kinds.length; k++) {
                boolean isLoop = k < kinds.length && kinds[k] == Kind.LOOP;
                if ((isLoop ? 0 : t) == carried) {
                    labels.add(k + 1);
                }
            }
            StringBuilder table = new StringBuilder();
            labels.forEach(k -> table.append(Build.number(k)));
            int choice = labels.indexOf(to + 1);
            goes(t, kinds, to, "br_table", more + "41" + Build.signed(choice == labels.size() - 1 ? 50 : choice) + "0E"
                + Build.number(labels.size() - 1) + table);
        }
    }

    /**
     * Global 1 counts how often the innermost place is come to, and the first two times the branch is taken there;
     * global 0 tells which blocks were gone out of by their end, or by a branch to them.
     */
    private static void goes(int t, Kind[] kinds, int to, String what, String branch) {
        String code = "23 01 41 01 6A 24 01 23 01 41 03 48 04 40" + branch + "0B" + value(t, 9);
        int sum = 0;
        boolean toLoop = to < kinds.length && kinds[to] == Kind.LOOP;
        int weight = 1;
        for (int k = 0; k < kinds.length; k++) {
            code = kinds[k].around(TYPES[t], code, value(t, 8)) + "23 00 41" + Build.signed(weight) + "6A 24 00";
            sum += k >= to || toLoop ? weight : 0;
            weight *= 10;
        }
        byte[] module = new Build().type(t == 0 ? Build.NONE_TO_NONE : t == 1 ? Build.NONE_TO_I32 : Build.NONE_TO_I64)
            .function(0, "00" + code + "0B").global("7F 01 41 00 0B").global("7F 01 41 00 0B").bytes();
        String where = what + " to " + to + " in " + List.of(kinds) + " of type " + TYPES[t];
        for (WaferRunner x : new WaferRunner[] {Use.with(module), Past.usedWith(module)}) {
            Use.answers(where, x, t == 0 ? 0 : toLoop ? 9 : 7);
            Due.same(where + ": the blocks behind", x.global(0), sum);
            Due.same(where + ": how often", x.global(1), toLoop ? 3 : 1);
        }
    }

    /** A function is a block, too: its end, return, and a branch to it are the same. */
    private static void functions(int t) {
        String type = t == 0 ? Build.NONE_TO_NONE : t == 1 ? Build.NONE_TO_I32 : Build.NONE_TO_I64;
        String more = "42 06 41 07";
        String[] ways = {value(t, 3), value(t, 3) + "0F", value(t, 3) + "0C 00", more + value(t, 3) + "0F",
            more + value(t, 3) + "0C 00", more + value(t, 3) + "41 01 0D 00 00", more + value(t, 3) + "41 05 0E 01 00 00",
            "02 40" + more + value(t, 3) + "0C 01 0B 00", "03 40" + more + value(t, 3) + "0F 0B 00"};
        for (String way : ways) {
            byte[] module = new Build().type(type).type(Build.NONE_TO_I64).function(0, "00" + way + "0B")
                .function(1, "01 01 7E 42 0B 41 16 10 00" + TURNED_TO_I64[t] + "21 00 AC 7C 20 00 42 E4 00 7E 7C 0B").bytes();
            for (WaferRunner x : Past.allWith(module)) {
                Due.same("the function " + way, x.call(0), t == 0 ? 0 : 3);
                Due.same("what lies below a call of " + way, x.call(1), BELOW + (t == 0 ? 0 : 300));
            }
        }
    }
}
