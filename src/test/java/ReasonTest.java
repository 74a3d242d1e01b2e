/**
 * RUN: each reason from 3 to 8 at the last case that goes on and the first that ends, and "What was put into globals
 * and memory till then stays."
 */
public final class ReasonTest {
    private static final int PAGES = 2;
    private static final int SIZE = PAGES * 65536;
    /** Adds 1 to global 0, puts it into byte 0, grows the memory. */
    private static final String BEFORE = "23 00 42 01 7C 24 00 41 00 23 00 37 03 00 41 01 40 00 1A";
    private static final int STEPS_BEFORE = 10;
    /** Adds 1 to global 1, puts 7 into byte 8. */
    private static final String BEHIND = "23 01 42 01 7C 24 01 41 08 41 07 3A 00 00";
    private static final int STEPS_BEHIND = 7;
    private static final int LEFT = 35;
    /** To where the 60th call of a heap does what is its own. */
    private static final int STEPS_TO_THE_INNERMOST = 3 + 59 * (200 + 6) + 200 + 2;
    private static final long LEAST = Long.MIN_VALUE;
    private static final long[] NONE = {};

    public static void main(String[] args) {
        unreachable();
        byZero();
        quotients();
        outsideOfTheMemory();
        calls();
        room();
        steps();
        Due.finish();
    }

    /** Function 0 takes an i64 and gives it back; the middle part ends the run or goes on. */
    private static Build ledger(String middle) {
        return new Build().type(Build.I64_TO_I64).type(Build.I32_TO_NONE).type(Build.NONE_TO_NONE)
            .type("60 08" + Build.times(8, "7E") + "00").type(Build.NONE_TO_I64)
            .function(0, "00" + BEFORE + middle + BEHIND + "20 00 0B")
            .memory("01 01 02").global("7E 01 42 00 0B").global("7E 01 42 00 0B");
    }

    private static long[] row(long... numbers) {
        return numbers;
    }

    private static void edge(String what, int reason, int steps, Build module, long[] goOn, long[] end) {
        for (WaferRunner x : Past.allWith(module.bytes())) {
            int begun = 0;
            int done = 0;
            for (int round = 0; round < 2; round++) {
                for (long v : goOn) {
                    Use.answers(what + ", goes on", x, v, v);
                    isPut(what, x, ++begun, ++done);
                }
                for (long v : end) {
                    Use.ends(what + ", ends", x, reason, v);
                    Due.same(what + ": steps", x.count(5), STEPS_BEFORE + steps);
                    isPut(what, x, ++begun, done);
                }
            }
        }
    }

    /** What was put before and behind the middle part by so many calls; nothing else has changed. */
    private static void isPut(String what, WaferRunner x, int begun, int done) {
        Due.same(what + ": global 0", x.global(0), begun);
        Due.same(what + ": global 1", x.global(1), done);
        Due.same(what + ": byte 0", x.memory(0), begun);
        Due.same(what + ": byte 8", x.memory(8), done > 0 ? 7 : 0);
        Due.same(what + ": pages", x.count(4), PAGES);
        Due.same(what + ": globals", x.count(3), 2);
        Due.same(what + ": the tape", x.count(0), 7);
        Due.same(what + ": arguments", x.count(6), 0);
    }

    private static void unreachable() {
        edge("unreachable in an if", 3, 4, ledger("20 00 A7 04 40 00 0B"), row(0, 1L << 32), row(1, -1, 2, LEAST + 1));
        edge("unreachable in an else", 3, 4, ledger("20 00 A7 04 40 05 00 0B"), row(1, -1), row(0, 1L << 32));
        edge("unreachable behind a branch", 3, 5, ledger("02 40 20 00 50 0D 00 00 0B"), row(0), row(1, 1L << 32));
        edge("unreachable in a call", 3, 3, ledger("20 00 A7 04 40 10 01 0B").function(2, "00 00 0B"), row(0), NONE);
        edge("unreachable in a call", 3, 5, ledger("20 00 A7 04 40 10 01 0B").function(2, "00 00 0B"), NONE, row(1));
    }

    private static void byZero() {
        for (int op = 0x6D; op <= 0x70; op++) {
            String ints = String.format("41 07 20 00 A7 %02X 1A", op);
            edge(ints, 4, 4, ledger(ints), row(1, -1, 2, (1L << 32) + 1, LEAST + 1), row(0, 1L << 32, LEAST));
            String longs = String.format("42 07 20 00 %02X 1A", op + 0x12);
            edge(longs, 4, 3, ledger(longs), row(1, -1, 1L << 32, LEAST), row(0));
            String least = String.format("42 80 80 80 80 80 80 80 80 80 7F 20 00 %02X 1A", op + 0x12);
            edge(least, 4, 3, ledger(least), row(1, -2), row(0));
        }
    }

    private static void quotients() {
        String leastInt = "41 80 80 80 80 78";
        String leastLong = "42 80 80 80 80 80 80 80 80 80 7F";
        edge("the least i32 by", 5, 4, ledger(leastInt + "20 00 A7 6D 1A"),
            row(1, -2, 2, 0x7FFFFFFF, 0x80000000L, LEAST + 1), row(-1, 0xFFFFFFFFL));
        edge("the i32 by -1", 5, 4, ledger("20 00 A7 41 7F 6D 1A"),
            row(0, 1, -1, 0x7FFFFFFF, 0x80000001L, 0x100000000L), row(0x80000000L, -0x80000000L));
        edge("the least i64 by", 5, 3, ledger(leastLong + "20 00 7F 1A"),
            row(1, -2, 2, LEAST, Long.MAX_VALUE, 0xFFFFFFFFL), row(-1));
        edge("the i64 by -1", 5, 3, ledger("20 00 42 7F 7F 1A"),
            row(0, 1, -1, -0x80000000L, LEAST + 1, Long.MAX_VALUE), row(LEAST));
        // Only div_s has such a quotient.
        for (int op = 0x6E; op <= 0x70; op++) {
            edge("the i32 by -1", 0, 0, ledger(String.format("20 00 A7 41 7F %02X 1A", op)), row(0x80000000L), NONE);
            edge("the i64 by -1", 0, 0, ledger(String.format("20 00 42 7F %02X 1A", op + 0x12)), row(LEAST), NONE);
        }
    }

    private static void outsideOfTheMemory() {
        String[][] rows = {
            {"", "28", "1A", "4"}, {"", "29", "1A", "8"}, {"", "2C", "1A", "1"}, {"", "2D", "1A", "1"},
            {"41 7F", "36", "", "4"}, {"42 7F", "37", "", "8"}, {"41 7F", "3A", "", "1"}
        };
        for (String[] row : rows) {
            int width = Integer.parseInt(row[3]);
            int steps = row[0].isEmpty() ? 3 : 4;
            for (long offset : new long[] {0, 1, 65536, SIZE - width}) {
                String middle = "20 00 A7" + row[0] + row[1] + "00" + Build.number(offset) + row[2];
                long last = SIZE - width - offset;
                edge(middle, 6, steps, ledger(middle), row(last, last + (1L << 32)),
                    row(last + 1, last + width, SIZE, -1, 0x7FFFFFFF, 0x80000000L));
            }
            for (long offset : new long[] {SIZE - width + 1, SIZE, 0x7FFFFFFF, 0x80000000L, 0xFFFFFFFFL}) {
                String middle = "20 00 A7" + row[0] + row[1] + "00" + Build.number(offset) + row[2];
                edge(middle, 6, steps, ledger(middle), NONE, row(0, 1, 2, SIZE - 1, -1, 0x80000000L));
            }
        }
        nothingIsPutOutside();
    }

    /** A store that is half inside of the memory puts nothing. */
    private static void nothingIsPutOutside() {
        for (WaferRunner x : Past.allWith(ledger("20 00 A7 42 7F 37 00 00").bytes())) {
            for (int at = SIZE - 7; at <= SIZE; at++) {
                Use.ends("i64.store", x, 6, at);
            }
            for (int at = SIZE - 8; at < SIZE; at++) {
                Due.same("byte " + at, x.memory(at), 0);
            }
            Use.answers("i64.store", x, SIZE - 8, SIZE - 8);
            for (int at = SIZE - 8; at < SIZE; at++) {
                Due.same("byte " + at, x.memory(at), 255);
            }
            Due.same("the byte before", x.memory(SIZE - 9), 0);
        }
    }

    private static void calls() {
        String middle = "20 00 A7 10 01";
        // Function 0 is the first call, function 1 of n makes n + 1 more.
        Build itself = ledger(middle).function(1, "00 20 00 04 40 20 00 41 01 6B 10 01 0B 0B");
        edge("calls of itself", 7, 3 + 99 * 6, itself, row(0, 1, 97, 98), row(99));
        edge("calls of itself", 7, 3 + 99 * 6, itself, row(98), row(99, 100, 1000, -1));
        Build eachOther = ledger(middle).function(1, "00 20 00 04 40 20 00 41 01 6B 10 02 0B 0B")
            .function(1, "00 20 00 04 40 20 00 41 01 6B 10 01 0B 0B");
        edge("calls of each other", 7, 3 + 99 * 6, eachOther, row(98), row(99));
        // What has been left is not open any more.
        Build twice = ledger(middle + middle + middle).function(1, "00 20 00 04 40 20 00 41 01 6B 10 01 0B 0B");
        edge("calls one behind the other", 7, 3 + 99 * 6, twice, row(98), row(99));
        Build returns = ledger(middle)
            .function(1, "00 20 00 45 04 40 0F 0B 20 00 41 01 6B 10 01 20 00 41 01 6B 10 02 0F 0B")
            .function(1, "00 0B");
        edge("calls that return", 7, 3 + 99 * 7, returns, row(98), row(99));
    }

    /** 60 calls of 201 places each lie on the one place of function 0: what is left of 12096 is LEFT. */
    private static Build heap(String innermost) {
        return ledger("20 00 A7 10 01").function(1, "00" + Build.times(200, "20 00")
            + "20 00 04 40 20 00 41 01 6B 10 01 05" + innermost + "0B" + Build.times(200, "1A") + "0B");
    }

    /** The innermost call needs n places. */
    private static void needs(int n, String what, int steps, Build module) {
        boolean fits = n <= LEFT;
        edge(n + " " + what, 7, STEPS_TO_THE_INNERMOST + steps, module, row(fits ? 59 : 58), fits ? NONE : row(59));
    }

    private static void room() {
        Due.same("places in all", 1 + 60 * 201 + LEFT, 12096);
        for (int n = LEFT - 1; n <= LEFT + 2; n++) {
            String drops = Build.times(n, "1A");
            needs(n, "parameters", LEFT + 1, heap(Build.times(n, "20 00") + drops));
            needs(n, "constants of i32", LEFT + 1, heap(Build.times(n, "41 05") + drops));
            needs(n, "constants of i64", LEFT + 1, heap(Build.times(n, "42 05") + drops));
            needs(n, "sizes", LEFT + 1, heap(Build.times(n, "3F 00") + drops));
            needs(n, "globals", LEFT + 1, heap(Build.times(n, "23 01") + drops));
            // The locals of a call come at once, when it begins.
            needs(n, "locals of a call", 1, heap("10 02").function(2, "01" + Build.number(n) + "7F 0B"));
            needs(n, "locals of a call and 2 values below", 3, heap("41 05 41 05 10 02 1A 1A")
                .function(2, "01" + Build.number(n - 2) + "7F 0B"));
            // The values that a call takes are its parameters, and need no other place.
            needs(n, "parameters and locals of a call", 9,
                heap(Build.times(8, "42 05") + "10 02").function(3, "01" + Build.number(n - 8) + "7E 0B"));
            needs(n, "locals and the result of a call", n == LEFT + 1 ? 2 : 1,
                heap("10 02 1A").function(4, "01" + Build.number(n - 1) + "7E 42 05 0B"));
        }
        // On a full stack there is room for all that gives no more than it takes.
        String full = Build.times(LEFT, "20 00");
        String drops = Build.times(LEFT, "1A");
        edge("a full stack", 7, 0, heap(full + "22 00 45 40 00 01 02 40 0B 10 02" + drops).function(2, "00 01 0B"),
            row(59), NONE);
    }

    private static void steps() {
        // A loop of 7 steps; with 14283 rounds all is 100000 steps.
        String loop = "03 40 20 00 42 01 7D 22 00 50 45 0D 00 0B";
        int rounds = (100000 - STEPS_BEFORE - STEPS_BEHIND - 1 - 1) / 7;
        Due.same("steps in all", STEPS_BEFORE + 1 + 7 * rounds + STEPS_BEHIND + 1, 100000);
        for (int nops = 0; nops <= 9; nops++) {
            Build build = ledger(Build.times(nops, "01") + loop);
            for (WaferRunner x : Past.allWith(build.bytes())) {
                if (nops == 0) {
                    Use.answers("100000 steps", x, 0, rounds);
                    Due.same("steps", x.count(5), 100000);
                    isPut("100000 steps", x, 1, 1);
                } else {
                    Use.ends("steps beyond 100000 by " + nops, x, 8, rounds);
                    Due.same("steps", x.count(5), 100001);
                    // The last is local.get, before it stand const, const, store8, and what adds 1 to global 1.
                    Due.same("byte 8", x.memory(8), nops < 2 ? 7 : 0);
                    Due.same("global 1", x.global(1), nops < 5 ? 1 : 0);
                    Due.same("global 0", x.global(0), 1);
                    Due.same("byte 0", x.memory(0), 1);
                    Due.same("pages", x.count(4), PAGES);
                    Due.same("the tape", x.count(0), 7);
                }
                Use.answers("fewer steps", x, 0, rounds - 2);
                Due.same("steps", x.count(5), 100000 - 14 + nops);
            }
        }
        endlessLoops();
    }

    private static void endlessLoops() {
        String[] loops = {"03 40 0C 00 0B", "03 40 41 01 0D 00 0B", "03 40 41 05 0E 01 00 00 0B",
            "03 40 01 02 40 0B 0C 00 0B", "03 40 41 00 04 40 05 0B 0C 00 0B", "02 40 03 40 10 01 0C 00 0B 0B"};
        for (String loop : loops) {
            edge("a loop without end: " + loop, 8, 100001 - STEPS_BEFORE, ledger("20 00 A7 04 40" + loop + "0B")
                .function(2, "00 01 0B"), row(0), row(1));
        }
    }
}
