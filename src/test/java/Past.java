/** Objects that have had other modules and calls; what is asked of a new object is asked of such a one, too. */
final class Past {
    /** Has more of everything than most modules. */
    private static final byte[] FULL = new Build().type(Build.NONE_TO_I32).type(Build.NONE_TO_NONE).type(Build.I64_TO_I64)
        .function(1, "01 3C 7E 02 40 00 0B 0B").function(0, "01 09 7F 41 00 02 7F 41 01 0B 6A 0B")
        .function(2, "00 00 0E 02 00 00 00 0B").memory("01 01 02")
        .global("7F 01 41 05 0B").global("7E 01 42 05 0B").global("7F 01 41 05 0B")
        .export("f", 0, 0).export("g", 3, 1).export("m", 2, 0).bytes();
    /** Is not read, and ends within a block. */
    private static final byte[] OPEN = new Build().type(Build.NONE_TO_NONE).function(0, "00 02 40 41 00 04 40").bytes();
    /** Is not valid, and is given up within a block that can't be reached, with values on the stack. */
    private static final byte[] WRONG = new Build().type(Build.I64_TO_I64).memory("01 00 FF FF FF FF 0F")
        .function(0, "00 41 01 02 40 00 42 01 45 0B 0B").bytes();

    private static final int NEXT = 0;
    private static final int THREE = 1;
    private static final int STOP = 2;
    private static final int ENDLESS = 3;
    private static final int GROW = 4;
    private static final int BY = 5;
    private static final int DEEP = 6;
    private static final int FAR = 7;

    /** The MODULE that such an object has at last; its functions are those above. */
    private static final byte[] KEPT = new Build().type(Build.NONE_TO_I32).type("60 03 7E 7F 7E 01 7E")
        .type(Build.NONE_TO_NONE).type(Build.I32_TO_I32)
        .function(0, "00 23 00 41 01 6A 24 00 41" + Build.signed(65532) + "23 00 36 02 00 23 00 0B")
        .function(1, "00 20 00 42 E4 00 7E 20 01 AC 42 0A 7E 7C 20 02 7C 0B")
        .function(2, "00 42 77 24 01 41" + Build.signed(131071) + "41 CD 00 3A 00 00 00 0B")
        .function(2, "00 03 40 0C 00 0B 0B")
        .function(3, "00 20 00 40 00 0B")
        .function(3, "00 41 80 80 80 80 78 20 00 6D 0B")
        .function(2, "00 10 06 0B")
        .function(0, "00 41 7F 28 02 00 0B")
        .memory("01 01 02")
        .global("7F 01 41 E4 00 0B").global("7E 01 42 05 0B").global("7F 00 41 07 0B")
        .export("next", 0, NEXT).export("three", 0, THREE).export("g", 3, 1).export("m", 2, 0).bytes();

    private Past() {
    }

    /**
     * Has a MODULE with a memory that has grown and globals that have changed, three arguments and seven bytes on the
     * tape; its latest call was ended by reason 3 at its sixth step. All this takes fewer than 100 calls.
     */
    static WaferRunner used() {
        WaferRunner x = new WaferRunner();
        bring(x, FULL, 0);
        Due.same("a call of the full module", x.call(1), 1);
        bring(x, OPEN, 1);
        bring(x, KEPT, 0);
        Due.same("the memory grows", Use.call(x, GROW, 1), 1);
        Due.same("the global's first", x.call(NEXT), 101);
        Due.same("by one", Use.call(x, BY, 1), Integer.MIN_VALUE);
        endsBy(x, 5, BY, -1);
        endsBy(x, 4, BY, 0);
        endsBy(x, 7, DEEP);
        endsBy(x, 6, FAR);
        bring(x, WRONG, 2);
        bring(x, OPEN, 1);
        endsBy(x, 3, STOP);
        x.argument(5);
        x.argument(6);
        x.argument(7);
        Use.tape(x, new byte[] {1, 2, 3, 4, 5, 6, 7});
        return x;
    }

    /** One that has run to the 100001st step, too. */
    static WaferRunner tired() {
        WaferRunner x = used();
        x.call(THREE);
        endsBy(x, 8, ENDLESS);
        endsBy(x, 3, STOP);
        x.argument(5);
        x.argument(6);
        x.argument(7);
        return x;
    }

    private static int turn = 0;

    /** A new object, one that was used and one that was tired take turns; it has no arguments. */
    static WaferRunner next() {
        turn++;
        WaferRunner x = turn % 3 == 1 ? new WaferRunner() : turn % 3 == 2 ? used() : tired();
        dropArguments(x);
        return x;
    }

    private static void dropArguments(WaferRunner x) {
        if (x.count(6) > 0) {
            Due.same("the arguments of the past", x.call(THREE), 567);
        }
    }

    /** A new object and two with a past. */
    static WaferRunner[] all() {
        return new WaferRunner[] {new WaferRunner(), used(), tired()};
    }

    /** The same with another MODULE, no arguments, and seven bytes on the tape. */
    static WaferRunner[] allWith(byte[] module) {
        WaferRunner[] all = all();
        for (WaferRunner x : all) {
            turnTo(x, module);
        }
        return all;
    }

    /** One of them. */
    static WaferRunner usedWith(byte[] module) {
        WaferRunner x = used();
        turnTo(x, module);
        return x;
    }

    private static void turnTo(WaferRunner x, byte[] module) {
        dropArguments(x);
        Due.same("the reason of " + Build.text(module), Use.load(x, module), 0);
        Use.tape(x, new byte[] {1, 2, 3, 4, 5, 6, 7});
    }

    /** The MODULE of such an object answers as if nothing had been asked since; its arguments go. */
    static void goesOn(String what, WaferRunner x) {
        Due.same(what + ": three", x.call(THREE), 567);
        Due.same(what + ": next", x.call(NEXT), 102);
        Due.same(what + ": the byte that it put", x.memory(65532), 102);
        Due.same(what + ": find three", Use.find(x, "three"), THREE);
        Due.same(what + ": find g", Use.find(x, "g"), -1);
        Due.same(what + ": find f", Use.find(x, "f"), -1);
        Due.same(what + ": the memory can't grow more", Use.call(x, GROW, 1), -1);
    }

    private static void bring(WaferRunner x, byte[] module, int reason) {
        Use.tape(x, module);
        try {
            x.module();
        } catch (UnsupportedOperationException e) {
            Due.isTrue("a module that is one", reason != 0);
        }
        Due.same("the reason in the past", x.count(1), reason);
    }

    private static void endsBy(WaferRunner x, int reason, int f, long... arguments) {
        Due.thrown("a call in the past", ArithmeticException.class, () -> Use.call(x, f, arguments));
        Due.same("its reason", x.count(1), reason);
    }
}
