/**
 * "What is thrown, in this order: IllegalStateException: there is no MODULE; IllegalArgumentException: a number out of
 * range; then as the call says. A call that throws changes nothing, but as said."
 */
public final class ThrowTest {
    private static final int LEAST = Integer.MIN_VALUE;
    private static final int MOST = Integer.MAX_VALUE;
    /** Takes eight arguments and tells each apart; a second function takes none. */
    private static final Build EIGHT = new Build().type("60 08" + Build.times(8, "7E") + "01 7E")
        .type(Build.NONE_TO_NONE).function(0, "00 20 00" + tens(1) + tens(2) + tens(3) + tens(4) + tens(5) + tens(6)
            + tens(7) + "0B").function(1, "00 01 0B").global("7F 00 41 05 0B").memory("00 01");

    public static void main(String[] args) {
        withoutModule();
        rangesOfAHead();
        rangesOfAModule();
        rangesOfAPast();
        countsAndArguments();
        numberOfArguments();
        modulesThatAreNone();
        Due.finish();
    }

    private static String tens(int parameter) {
        return "42 0A 7E 20" + Build.number(parameter) + "7C";
    }

    private static void refuses(String what, WaferRunner x, Class<? extends RuntimeException> thrown, Runnable call) {
        State before = new State(x);
        Due.thrown(what, thrown, call);
        before.stays(what, x);
    }

    private static void refusesState(WaferRunner x) {
        for (int n : new int[] {LEAST, -1, 0, 1, 20, 30, 65536, MOST}) {
            refuses("call(" + n + ") without a module", x, IllegalStateException.class, () -> x.call(n));
            refuses("global(" + n + ") without a module", x, IllegalStateException.class, () -> x.global(n));
            refuses("memory(" + n + ") without a module", x, IllegalStateException.class, () -> x.memory(n));
        }
    }

    private static void withoutModule() {
        refusesState(new WaferRunner());
        WaferRunner x = new WaferRunner();
        x.feed(1, 2, 3, 4, 5);
        for (int k = 1; k <= 8; k++) {
            x.argument(k);
        }
        Due.thrown("not a module", UnsupportedOperationException.class, () -> x.module());
        x.feed(1, 2, 3, 4, 5);
        refusesState(x);
        Due.same("a module at last", Use.load(x, EIGHT.bytes()), 0);
        Due.same("the arguments were there all the time", x.call(0), 12345678);

        WaferRunner notValid = new WaferRunner();
        Due.same("not valid", Use.load(notValid, new Build().memory("00 03").global("7F 00 41 00 0B").bytes()), 2);
        refusesState(notValid);
    }

    /** What is there is 0 .. bound - 1. */
    private static int[] outside(int bound) {
        return new int[] {LEAST, LEAST + 1, -2, -1, bound, bound + 1, MOST - 1, MOST};
    }

    private static void refusesRanges(WaferRunner x, int functions, int globals, int bytes) {
        State before = new State(x);
        for (int f : outside(functions)) {
            Due.thrown("call(" + f + ")", IllegalArgumentException.class, () -> x.call(f));
        }
        before.stays("a function that is not there", x);
        for (int g : outside(globals)) {
            Due.thrown("global(" + g + ")", IllegalArgumentException.class, () -> x.global(g));
        }
        before.stays("a global that is not there", x);
        for (int i : outside(bytes)) {
            Due.thrown("memory(" + i + ")", IllegalArgumentException.class, () -> x.memory(i));
        }
        before.stays("a byte that is not there", x);
    }

    private static void rangesOfAHead() {
        WaferRunner x = Use.with(new Build());
        x.argument(1);
        refusesRanges(x, 0, 0, 0);
        // A memory that has no pages has no bytes either.
        WaferRunner y = Use.with(new Build().memory("00 00"));
        refusesRanges(y, 0, 0, 0);
    }

    private static void rangesOfAModule() {
        WaferRunner x = Use.with(EIGHT);
        for (int k = 1; k <= 8; k++) {
            x.argument(10 - k);
        }
        refusesRanges(x, 2, 1, 65536);
        Due.same("the last that are there: global", x.global(0), 5);
        Due.same("the last that are there: memory", x.memory(65535), 0);
        // The number of arguments is right for function 0 only; a function that is not there leaves them.
        Due.same("the arguments were there all the time", x.call(0), 98765432);
        Due.same("the last that are there: call", x.call(1), 0);
    }

    private static void rangesOfAPast() {
        for (WaferRunner x : new WaferRunner[] {Past.used(), Past.tired()}) {
            for (int n : new int[] {-1, 8}) {
                refuses("call(" + n + ")", x, IllegalArgumentException.class, () -> x.call(n));
            }
            for (int n : new int[] {-1, 3}) {
                refuses("global(" + n + ")", x, IllegalArgumentException.class, () -> x.global(n));
            }
            for (int n : new int[] {-1, 131072}) {
                refuses("memory(" + n + ")", x, IllegalArgumentException.class, () -> x.memory(n));
            }
            Due.same("the last that are there: global", x.global(2), 7);
            Due.same("the last that are there: memory", x.memory(131071), 77);
            Past.goesOn("behind calls that were refused", x);
        }
    }

    private static void countsAndArguments() {
        for (WaferRunner x : Past.all()) {
            for (int what : outside(State.COUNTS)) {
                refuses("count(" + what + ")", x, IllegalArgumentException.class, () -> x.count(what));
            }
            for (int k = x.count(6) + 1; k <= 8; k++) {
                Due.same("argument no. " + k, x.argument(k), k);
            }
            refuses("a ninth argument", x, IndexOutOfBoundsException.class, () -> x.argument(9));
            refuses("a ninth argument again", x, IndexOutOfBoundsException.class, () -> x.argument(Long.MIN_VALUE));
        }
        WaferRunner x = Use.with(EIGHT);
        for (int k = 1; k <= 8; k++) {
            x.argument(k);
        }
        refuses("a ninth argument", x, IndexOutOfBoundsException.class, () -> x.argument(9));
        Due.same("the eight are as they were", x.call(0), 12345678);
        Due.same("there is room again", x.argument(1), 1);
    }

    private static void numberOfArguments() {
        for (int given = 0; given <= 8; given++) {
            int f = given == 8 ? 1 : 0;
            WaferRunner x = Use.with(EIGHT);
            x.feed(1, 2, 3, 4, 5);
            Due.same("a call before", x.call(1), 0);
            for (int k = 0; k < given; k++) {
                x.argument(k);
            }
            State before = new State(x);
            Due.thrown(given + " arguments", IllegalArgumentException.class, () -> x.call(f));
            before.stays("another number of arguments", x, 6);
            Due.same("they went", x.count(6), 0);
        }
        WaferRunner past = Past.used();
        State before = new State(past);
        Due.thrown("three for one", IllegalArgumentException.class, () -> past.call(5));
        before.stays("another number of arguments", past, 6);
        Due.same("they went", past.count(6), 0);
        Due.thrown("none for one", IllegalArgumentException.class, () -> past.call(5));
        before.stays("no arguments", past, 6);
        past.argument(5);
        past.argument(6);
        past.argument(7);
        Past.goesOn("behind another number of arguments", past);
    }

    private static void modulesThatAreNone() {
        byte[][] none = {new byte[0], new byte[2000], new Build().memory("02 00").bytes()};
        byte[][] notValid = {new Build().memory("00 03").bytes(), Build.one(Build.NONE_TO_I64, "00 41 00 0B")};
        for (WaferRunner x : Past.all()) {
            for (byte[] bytes : none) {
                Due.same("not read", Use.load(x, bytes), 1);
            }
            for (byte[] bytes : notValid) {
                Due.same("not valid", Use.load(x, bytes), 2);
            }
            if (x.count(2) >= 0) {
                Past.goesOn("behind modules that are none", x);
            }
        }
    }
}
