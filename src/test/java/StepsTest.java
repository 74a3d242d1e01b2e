/**
 * RUN: "Each instruction that is begun is a step (but else and end; a loop that goes on by br is not begun again)", and
 * promise 10: "steps of the latest call that began".
 */
public final class StepsTest {
    public static void main(String[] args) {
        oneByOne();
        numeric();
        conditions();
        loops();
        calls();
        endings();
        latestCall();
        Due.finish();
    }

    /** A function of i32, with a local of each type, a memory and a global of each type; function 1 has two steps. */
    private static Build module(String body) {
        return new Build().type(Build.I32_TO_NONE).type(Build.NONE_TO_NONE).function(0, "02 01 7F 01 7E" + body + "0B")
            .function(1, "00 01 01 0B").memory("00 01").global("7F 01 41 00 0B").global("7E 01 42 00 0B");
    }

    private static void takes(int steps, String body, long argument) {
        for (WaferRunner x : Past.allWith(module(body).bytes())) {
            Use.answers(body, x, 0, argument);
            Due.same(body + ": steps", x.count(5), steps);
        }
    }

    private static void takes(int steps, String body) {
        takes(steps, body, 0);
    }

    private static void oneByOne() {
        takes(0, "");
        takes(1, "01");
        takes(2, "01 01");
        takes(1, "02 40 0B");
        takes(1, "03 40 0B");
        takes(5, "02 7F 41 00 0B 41 00 6A 1A");
        takes(2, "02 40 03 40 0B 0B");
        takes(3, "02 7F 41 00 0B 1A");
        takes(1, "0C 00");
        takes(1, "0C 00 01 01");
        takes(1, "0F");
        takes(1, "0F 01");
        takes(2, "41 00 1A");
        takes(2, "42 00 1A");
        takes(4, "41 00 41 00 1A 1A");
        takes(5, "41 01 41 02 41 00 1B 1A");
        takes(2, "20 00 1A");
        takes(2, "41 00 21 01");
        takes(3, "41 00 22 01 1A");
        takes(2, "23 00 1A");
        takes(2, "42 00 24 01");
        takes(3, "41 00 28 00 00 1A");
        takes(3, "41 00 29 00 00 1A");
        takes(3, "41 00 2C 00 00 1A");
        takes(3, "41 00 2D 00 00 1A");
        takes(3, "41 00 41 00 36 00 00");
        takes(3, "41 00 42 00 37 00 00");
        takes(3, "41 00 41 00 3A 00 00");
        takes(2, "3F 00 1A");
        takes(3, "41 00 40 00 1A");
        takes(3, "42 00 A7 1A");
        takes(3, "41 00 AC 1A");
        takes(3, "41 00 AD 1A");
    }

    private static void numeric() {
        for (int op = 0x45; op <= 0x8A; op++) {
            if (op > 0x5A && op < 0x67) {
                continue;
            }
            boolean isLong = op >= 0x50 && op <= 0x5A || op >= 0x79;
            boolean takesOne = op == 0x45 || op == 0x50 || op >= 0x67 && op <= 0x69 || op >= 0x79 && op <= 0x7B;
            String one = isLong ? "42 01" : "41 01";
            takes(takesOne ? 3 : 4, one + (takesOne ? "" : one) + String.format("%02X 1A", op));
        }
    }

    private static void conditions() {
        takes(2, "20 00 04 40 01 0B", 0);
        takes(3, "20 00 04 40 01 0B", 1);
        takes(2, "20 00 04 40 01 05 0B", 0);
        takes(3, "20 00 04 40 01 05 0B", 1);
        takes(4, "20 00 04 40 01 05 01 01 0B", 0);
        takes(3, "20 00 04 40 01 05 01 01 0B", 1);
        takes(2, "20 00 04 40 05 0B", 0);
        takes(2, "20 00 04 40 05 0B", 1);
        takes(5, "20 00 04 40 05 41 00 04 40 05 01 0B 0B", 0);
        takes(4, "02 40 20 00 0D 00 01 0B", 0);
        takes(3, "02 40 20 00 0D 00 01 0B", 1);
        takes(4, "02 40 20 00 0E 01 00 01 0B 01", 0);
        takes(3, "02 40 20 00 0E 01 00 01 0B 01", 1);
        // Out of a hundred blocks: each was begun, the branch is one step more.
        takes(101, Build.times(100, "02 40") + "0C 63" + Build.times(100, "01 0B"));
        takes(200, Build.times(100, "02 40") + Build.times(100, "01 0B"));
    }

    private static void loops() {
        // The loop once, then get, const, sub, tee and what goes on, for each time round.
        for (int n = 1; n <= 4; n++) {
            takes(1 + 5 * n, "03 40 20 00 41 01 6B 22 00 0D 00 0B", n);
            takes(2 + 5 * n, "02 40 03 40 20 00 41 01 6B 22 00 0E 01 01 00 0B 0B", n);
            // With an if for what goes on, whose branch the last time round does not come to.
            takes(1 + 5 * n + (n - 1), "03 40 20 00 41 01 6B 22 00 04 40 0C 01 0B 0B", n);
            // A loop in a loop is begun once for each time round of the outer one.
            takes(1 + 6 * n, "03 40 03 40 0B 20 00 41 01 6B 22 00 0D 00 0B", n);
            // A branch to the outer loop leaves the inner one, which is begun again.
            takes(1 + 6 * n, "03 40 03 40 20 00 41 01 6B 22 00 0D 01 0B 0B", n);
            // A block within the loop is begun each time round, and so is an if.
            takes(1 + 8 * n, "03 40 02 40 0B 20 00 04 40 05 0B 20 00 41 01 6B 22 00 0D 00 0B", n);
        }
    }

    private static void calls() {
        takes(3, "10 01");
        takes(6, "10 01 10 01");
        takes(4, "10 01 01");
        takes(1 + 8 * 3, "03 40 10 01 20 00 41 01 6B 22 00 0D 00 0B", 3);
    }

    /** The instruction that ends the run was begun; those behind it were not. */
    private static void endings() {
        String[][] rows = {
            {"3", "1", "00 01"}, {"3", "3", "01 01 00 01"}, {"3", "2", "02 40 00 01 0B 01"},
            {"4", "3", "41 01 41 00 6D 1A 01"}, {"4", "3", "42 01 42 00 82 1A 01"},
            {"5", "3", "41 80 80 80 80 78 41 7F 6D 1A"}, {"6", "2", "41 7F 28 00 00 1A 01"},
            {"6", "3", "41 7F 41 00 36 00 00 01"}, {"7", "400", "01 01 20 00 10 00 01"},
            {"8", "100001", "03 40 01 0C 00 0B 01"}
        };
        for (String[] row : rows) {
            for (WaferRunner x : Past.allWith(module(row[2]).bytes())) {
                Use.ends(row[2], x, Integer.parseInt(row[0]), 1);
                Due.same(row[2] + ": steps", x.count(5), Integer.parseInt(row[1]));
            }
        }
    }

    private static void latestCall() {
        for (WaferRunner x : Past.allWith(module("20 00 04 40 01 01 01 0B").bytes())) {
            Use.answers("a call", x, 0, 1);
            Due.same("its steps", x.count(5), 5);
            Due.same("a call of function 1", x.call(1), 0);
            Due.same("its steps", x.count(5), 2);
            Due.thrown("one that did not begin", IllegalArgumentException.class, () -> x.call(0));
            Due.same("the steps before", x.count(5), 2);
            Due.thrown("one that is not there", IllegalArgumentException.class, () -> x.call(2));
            Due.same("the steps before", x.count(5), 2);
            Due.same("not a module", Use.load(x, new byte[8]), 1);
            Due.same("the steps before", x.count(5), 2);
            Due.same("a module", Use.load(x, module("").bytes()), 0);
            Due.same("the steps before", x.count(5), 2);
            Use.answers("a call without a step", x, 0, 1);
            Due.same("its steps", x.count(5), 0);
        }
    }
}
