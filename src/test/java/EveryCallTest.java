import java.nio.charset.StandardCharsets;
import java.util.ArrayList;
import java.util.Arrays;
import java.util.List;

/**
 * Promises 1 to 10: what each call answers, what it takes away, and that it leaves all else as it was; on a new object,
 * on objects with other modules and calls behind them, and up to their 512th call.
 */
public final class EveryCallTest {
    private static final String ARGUMENT = "IllegalArgumentException";
    private static final String STATE = "IllegalStateException";
    private static final String BOUNDS = "IndexOutOfBoundsException";
    private static final String ENDED = "ArithmeticException";
    private static final String REFUSED = "UnsupportedOperationException";

    private static final int ADD = 0;
    private static final int PUT = 1;
    private static final int GROW = 2;
    private static final int STOP = 3;
    private static final int HALF = 4;
    private static final int ENDLESS = 5;
    private static final int DEEP = 6;
    private static final int FUNCTIONS = 7;

    /** The MODULE of most cases; its functions are those above. */
    private static final byte[] LEDGER = new Build().type(Build.TWO_I32_TO_I32).type("60 02 7F 7F 00")
        .type(Build.I32_TO_I32).type(Build.NONE_TO_NONE).type(Build.TWO_I64_TO_I64)
        .function(0, "00 20 00 20 01 6A 0B")
        .function(1, "00 20 00 20 01 3A 00 00 20 01 24 00 0B")
        .function(2, "00 20 00 40 00 0B")
        .function(3, "00 23 00 41 01 6A 24 00 41 08 41 09 3A 00 00 00 0B")
        .function(4, "00 20 00 20 01 7F 0B")
        .function(3, "00 03 40 0C 00 0B 0B")
        .function(3, "00 10 06 0B")
        .memory("01 01 02").global("7F 01 41 E4 00 0B").global("7E 00 42 05 0B")
        .export("add", 0, ADD).export("m", 2, 0).export("g", 3, 1).export("", 0, STOP).bytes();
    private static final byte[] OTHER = new Build().type(Build.NONE_TO_NONE).function(0, "00 0B").function(0, "00 0B")
        .memory("00 02").global("7E 01 42 7F 0B").export("other", 0, 1).bytes();
    private static final byte[] HEAD = Build.hex(Build.HEAD);
    private static final byte[] NOT_READ = Arrays.copyOf(LEDGER, LEDGER.length - 1);
    private static final byte[] NOT_VALID = new Build().memory("00 03").global("7F 00 41 00 0B").bytes();

    private interface Act {
        long on(Counted x);
    }

    /** What an object is asked at last; each has its place in the row of what is due. */
    private static final String[] LOOKS = {"count(0)", "count(1)", "count(2)", "count(3)", "count(4)", "count(5)",
        "count(6)", "global(0)", "global(1)", "memory(7)", "memory(8)", "memory(65535)", "memory(65536)"};

    private static long look(Counted x, int k) {
        if (k < 7) {
            return x.count(k);
        }
        return k < 9 ? x.global(k - 7) : x.memory(new int[] {7, 8, 65535, 65536}[k - 9]);
    }

    /** One call in one state, and all that is due then. */
    private static final class Case {
        private final boolean hasModule;
        private final String name;
        private byte[] tape = {};
        private long[] arguments = {};
        private Act act;
        private String answer;
        private final String[] due;

        Case(boolean hasModule, String name) {
            this.hasModule = hasModule;
            this.name = name;
            due = hasModule
                ? new String[] {"0", "0", "" + FUNCTIONS, "2", "1", "5", "0", "77", "5", "77", "0", "0", ARGUMENT}
                : new String[] {"0", "1", "-1", "-1", "-1", "0", "0", STATE, STATE, STATE, STATE, STATE, STATE};
        }

        Case tape(byte[] bytes) {
            tape = bytes;
            return is("count(0)", bytes.length);
        }

        Case tape(String text) {
            return tape(text.getBytes(StandardCharsets.ISO_8859_1));
        }

        Case arguments(long... row) {
            arguments = row;
            return is("count(6)", row.length);
        }

        Case does(Act deed, Object answered) {
            act = deed;
            answer = String.valueOf(answered);
            return this;
        }

        /** Behind the call this is so; all else is as it was. */
        Case is(String look, Object answered) {
            due[Arrays.asList(LOOKS).indexOf(look)] = String.valueOf(answered);
            return this;
        }

        Case takesTape() {
            return is("count(0)", 0);
        }

        Case runs(int reason, int steps) {
            return is("count(1)", reason).is("count(5)", steps).is("count(6)", 0);
        }

        /** A call that did something has put 77 into global 0 and byte 7. */
        void prepare(Counted x) {
            if (hasModule) {
                dropArguments(x);
                x.end(0);
                x.tape(LEDGER);
                x.module();
                x.argument(7);
                x.argument(77);
                x.call(PUT);
            } else {
                x.end(0);
                outcome(() -> x.module());
            }
            x.tape(tape);
            for (long v : arguments) {
                x.argument(v);
            }
        }
    }

    private interface Asked {
        long answer();
    }

    private static String outcome(Asked asked) {
        try {
            return Long.toString(asked.answer());
        } catch (RuntimeException e) {
            return e.getClass().getSimpleName();
        }
    }

    /** Whatever their number, they go with a call of a function that is there. */
    private static void dropArguments(Counted x) {
        outcome(() -> x.call(0));
    }

    public static void main(String[] args) {
        List<Case> cases = new ArrayList<>();
        tapes(cases);
        modules(cases);
        finds(cases);
        arguments(cases);
        calls(cases);
        endings(cases);
        looks(cases);
        for (Case one : cases) {
            int before = callsBefore(one);
            for (int past : new int[] {0, 1, 30, 111, 222, Counted.MOST - before - 1 - LOOKS.length}) {
                goThrough(one, Math.min(past, Counted.MOST - before - 1 - LOOKS.length));
            }
            endsWith(one, before);
        }
        Due.finish();
    }

    private static int callsBefore(Case one) {
        Counted x = new Counted();
        one.prepare(x);
        return x.calls();
    }

    private static void same(String what, Case one, String got, String due) {
        Due.isTrue(one.name + " (" + (one.hasModule ? "with" : "without") + " a module), " + what + " answered " + got
            + ", due is " + due, got.equals(due));
    }

    /** The call, and behind it every look. */
    private static void goThrough(Case one, int past) {
        Counted x = new Counted();
        live(x, past, one.hasModule);
        one.prepare(x);
        same("behind " + x.calls() + " calls", one, outcome(() -> one.act.on(x)), one.answer);
        for (int k = 0; k < LOOKS.length; k++) {
            int which = k;
            same(LOOKS[k] + " behind " + x.calls() + " calls", one, outcome(() -> look(x, which)), one.due[k]);
        }
    }

    /** The call is the 512th; then it is the 511th, and each look is the 512th. */
    private static void endsWith(Case one, int before) {
        Counted last = new Counted();
        live(last, Counted.MOST - before - 1, one.hasModule);
        one.prepare(last);
        same("as the last call", one, outcome(() -> one.act.on(last)), one.answer);
        Due.same("that was the last call", last.calls(), Counted.MOST);
        for (int k = 0; k < LOOKS.length; k++) {
            int which = k;
            Counted x = new Counted();
            live(x, Counted.MOST - before - 2, one.hasModule);
            one.prepare(x);
            same("as the last call but one", one, outcome(() -> one.act.on(x)), one.answer);
            same(LOOKS[k] + " as the last call", one, outcome(() -> look(x, which)), one.due[k]);
            Due.same("that was the last call", x.calls(), Counted.MOST);
        }
    }

    /** So many calls of all kinds; without a module, none that would bring one, and no arguments, which would stay. */
    private static void live(Counted x, int calls, boolean withModule) {
        int until = x.calls() + calls;
        int head = (OTHER.length + 19) / 20 + 3;
        for (int turn = 0; x.calls() < until; turn++) {
            if (withModule && turn % 40 == 0 && until - x.calls() > head) {
                outcome(() -> x.end(0));
                x.tape(OTHER);
            } else {
                liveOn(x, turn, withModule);
            }
        }
    }

    private static void liveOn(Counted x, int turn, boolean withModule) {
        switch (turn % 10) {
            case 1 -> outcome(() -> x.module());
            case 2 -> outcome(() -> x.call(turn % 4 - 1));
            case 3 -> outcome(() -> x.global(turn % 3 - 1));
            case 4 -> outcome(() -> x.memory(turn * 1000 - 5000));
            case 5 -> outcome(() -> x.feed(turn, -turn, turn * turn, 0, -1));
            case 6 -> outcome(() -> x.end(turn % 23 - 1));
            case 7 -> outcome(() -> x.find());
            case 8 -> outcome(() -> withModule ? x.argument(turn) : x.count(0));
            default -> outcome(() -> x.count(turn % 9 - 1));
        }
    }

    private static Case with(List<Case> cases, String name) {
        Case one = new Case(true, name);
        cases.add(one);
        return one;
    }

    private static Case without(List<Case> cases, String name) {
        Case one = new Case(false, name);
        cases.add(one);
        return one;
    }

    /** The same is due with and without a MODULE. */
    private static Case[] both(List<Case> cases, String name) {
        return new Case[] {with(cases, name), without(cases, name)};
    }

    private static void tapes(List<Case> cases) {
        for (Case one : both(cases, "feed to an empty tape")) {
            one.does(x -> x.feed(1, 2, 3, 4, 5), 20).is("count(0)", 20);
        }
        for (Case one : both(cases, "feed to three bytes")) {
            one.tape("add").arguments(40, 2).does(x -> x.feed(1, 2, 3, 4, 5), 23).is("count(0)", 23);
        }
        for (Case one : both(cases, "feed to 1980 bytes")) {
            one.tape(new byte[1980]).does(x -> x.feed(1, 2, 3, 4, 5), 2000).is("count(0)", 2000);
        }
        for (Case one : both(cases, "feed to 1981 bytes")) {
            one.tape(Arrays.copyOf(LEDGER, 1981)).does(x -> x.feed(1, 2, 3, 4, 5), BOUNDS);
        }
        for (int n : new int[] {0, 1, 2, 3}) {
            for (Case one : both(cases, "end(" + n + ") of three")) {
                one.tape("add").arguments(40, 2).does(x -> x.end(n), n).is("count(0)", n);
            }
        }
        for (int n : new int[] {4, -1, 20, Integer.MAX_VALUE, Integer.MIN_VALUE}) {
            for (Case one : both(cases, "end(" + n + ") of three")) {
                one.tape("add").arguments(40, 2).does(x -> x.end(n), ARGUMENT);
            }
        }
        for (Case one : both(cases, "end(0) of none")) {
            one.does(x -> x.end(0), 0);
        }
        for (Case one : both(cases, "end(1) of none")) {
            one.does(x -> x.end(1), ARGUMENT);
        }
    }

    /** Memory and globals of what is the MODULE then; what the MODULE before had put is gone. */
    private static Case begins(Case one, int functions, String pages, String... looks) {
        one.does(x -> x.module(), functions).takesTape().is("count(1)", 0).is("count(2)", functions)
            .is("count(4)", pages);
        for (int k = 0; k < looks.length; k++) {
            one.is(LOOKS[7 + k], looks[k]);
        }
        return one;
    }

    private static void modules(List<Case> cases) {
        for (Case one : both(cases, "module of a module")) {
            one.tape(OTHER).arguments(40, 2);
            begins(one, 2, "2", "-1", ARGUMENT, "0", "0", "0", "0").is("count(3)", 1);
        }
        for (Case one : both(cases, "module of the ledger")) {
            one.tape(LEDGER).arguments(40, 2, 7, 7, 7, 7, 7, 7);
            begins(one, FUNCTIONS, "1", "100", "5", "0", "0", "0", ARGUMENT).is("count(3)", 2);
        }
        for (Case one : both(cases, "module of a head")) {
            one.tape(HEAD);
            begins(one, 0, "0", ARGUMENT, ARGUMENT, ARGUMENT, ARGUMENT, ARGUMENT, ARGUMENT).is("count(3)", 0);
        }
        byte[][] none = {{}, {0}, "add".getBytes(StandardCharsets.ISO_8859_1), NOT_READ, Arrays.copyOf(LEDGER, 2000)};
        for (byte[] bytes : none) {
            for (Case one : both(cases, "module of " + bytes.length + " bytes that are not read")) {
                one.tape(bytes).arguments(40, 2).does(x -> x.module(), REFUSED).takesTape().is("count(1)", 1);
            }
        }
        for (Case one : both(cases, "module of what is not valid")) {
            one.tape(NOT_VALID).arguments(40, 2).does(x -> x.module(), REFUSED).takesTape().is("count(1)", 2);
        }
    }

    private static void finds(List<Case> cases) {
        String[] names = {"add", "", "m", "g", "ad", "addd", "other", "a".repeat(2000)};
        int[] functions = {ADD, STOP, -1, -1, -1, -1, -1, -1};
        for (int k = 0; k < names.length; k++) {
            with(cases, "find " + names[k]).tape(names[k]).arguments(40, 2).does(x -> x.find(), functions[k]).takesTape();
            without(cases, "find " + names[k]).tape(names[k]).arguments(40, 2).does(x -> x.find(), -1).takesTape();
        }
    }

    private static void arguments(List<Case> cases) {
        for (int n = 0; n < 9; n++) {
            int more = n + 1;
            for (Case one : both(cases, "argument behind " + n)) {
                one.tape("add").arguments(new long[n]).does(x -> x.argument(-more), more <= 8 ? more : BOUNDS)
                    .is("count(6)", Math.min(more, 8));
            }
        }
    }

    private static void calls(List<Case> cases) {
        with(cases, "add").tape("add").arguments(40, 2).does(x -> x.call(ADD), 42).runs(0, 3);
        with(cases, "add of the lowest bits").arguments(-1L >>> 1, 1L << 31).does(x -> x.call(ADD), Integer.MAX_VALUE)
            .runs(0, 3);
        with(cases, "put").tape("add").arguments(8, 300).does(x -> x.call(PUT), 0).runs(0, 5).is("global(0)", 300)
            .is("memory(8)", 44);
        with(cases, "grow").arguments(1).does(x -> x.call(GROW), 1).runs(0, 2).is("count(4)", 2).is("memory(65536)", 0);
        with(cases, "grow by 0").arguments(0).does(x -> x.call(GROW), 1).runs(0, 2);
        with(cases, "grow by 2").arguments(2).does(x -> x.call(GROW), -1).runs(0, 2);
        with(cases, "half").arguments(Long.MIN_VALUE, 2).does(x -> x.call(HALF), Long.MIN_VALUE / 2).runs(0, 3);
        for (int f : new int[] {-1, FUNCTIONS, Integer.MAX_VALUE, Integer.MIN_VALUE}) {
            with(cases, "call(" + f + ")").tape("add").arguments(40, 2).does(x -> x.call(f), ARGUMENT);
        }
        for (int f : new int[] {-1, 0, FUNCTIONS, Integer.MAX_VALUE, Integer.MIN_VALUE}) {
            without(cases, "call(" + f + ")").tape("add").arguments(40, 2).does(x -> x.call(f), STATE);
        }
        int[] parameters = {2, 2, 1, 0, 2, 0, 0};
        for (int f = 0; f < FUNCTIONS; f++) {
            int which = f;
            for (int n = 0; n <= 8; n++) {
                if (n != parameters[f]) {
                    with(cases, n + " arguments for function " + f).tape("add").arguments(new long[n])
                        .does(x -> x.call(which), ARGUMENT).is("count(6)", 0);
                }
            }
        }
    }

    private static void endings(List<Case> cases) {
        with(cases, "unreachable").tape("add").does(x -> x.call(STOP), ENDED).runs(3, 8).is("global(0)", 78)
            .is("memory(8)", 9);
        with(cases, "by zero").tape("add").arguments(1, 0).does(x -> x.call(HALF), ENDED).runs(4, 3);
        with(cases, "a quotient too great").arguments(Long.MIN_VALUE, -1).does(x -> x.call(HALF), ENDED).runs(5, 3);
        with(cases, "outside of the memory").arguments(65536, 1).does(x -> x.call(PUT), ENDED).runs(6, 3);
        with(cases, "calls without end").tape("add").does(x -> x.call(DEEP), ENDED).runs(7, 100);
        with(cases, "a loop without end").tape("add").does(x -> x.call(ENDLESS), ENDED).runs(8, 100001);
    }

    private static void looks(List<Case> cases) {
        for (int k = 0; k < LOOKS.length; k++) {
            int which = k;
            for (Case one : both(cases, LOOKS[k])) {
                one.tape("add").arguments(40, 2);
                one.does(x -> look(x, which), one.due[k]);
            }
        }
        for (int n : new int[] {-1, 2, 7, 20, Integer.MAX_VALUE, Integer.MIN_VALUE}) {
            with(cases, "global(" + n + ")").tape("add").arguments(1).does(x -> x.global(n), ARGUMENT);
            without(cases, "global(" + n + ")").tape("add").arguments(1).does(x -> x.global(n), STATE);
        }
        for (int n : new int[] {-1, 65536, 131071, 131072, Integer.MAX_VALUE, Integer.MIN_VALUE}) {
            with(cases, "memory(" + n + ")").tape("add").arguments(1).does(x -> x.memory(n), ARGUMENT);
            without(cases, "memory(" + n + ")").tape("add").arguments(1).does(x -> x.memory(n), STATE);
        }
        for (int n : new int[] {-1, 7, 8, Integer.MAX_VALUE, Integer.MIN_VALUE}) {
            for (Case one : both(cases, "count(" + n + ")")) {
                one.tape("add").arguments(1).does(x -> x.count(n), ARGUMENT);
            }
        }
    }
}
