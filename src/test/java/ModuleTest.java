/** Promise 4: what module does to an object. */
public final class ModuleTest {
    public static void main(String[] args) {
        beginsAnew();
        allOfTheMemoryIsZero();
        staysIfTheNextIsNone();
        argumentsStay();
        theTapeIsEmpty();
        fullTape();
        Due.finish();
    }

    private static Build counter() {
        return new Build().type(Build.NONE_TO_I32)
            .function(0, "00 23 00 41 01 6A 24 00 41 00 23 00 36 02 00 41 01 40 00 1A 23 00 0B")
            .memory("00 01").global("7F 01 41 E4 00 0B").global("7E 00 42 7B 0B").export("f", 0, 0);
    }

    private static void beginsAnew() {
        WaferRunner x = Use.with(counter());
        Due.same("pages at first", x.count(4), 1);
        Use.answers("the first call", x, 101);
        Use.answers("the second call", x, 102);
        Due.same("pages that have grown", x.count(4), 2);
        Due.same("memory", x.memory(0), 102);
        Due.same("reason", Use.load(x, counter().bytes()), 0);
        Due.same("memory of the new one", x.memory(0), 0);
        Due.same("global of the new one", x.global(0), 100);
        Due.same("pages of the new one", x.count(4), 1);
        Due.same("globals of the new one", x.count(3), 2);
        Use.answers("a call of the new one", x, 101);

        Due.same("reason of a head", Use.load(x, Build.hex(Build.HEAD)), 0);
        Due.same("functions", x.count(2), 0);
        Due.same("globals", x.count(3), 0);
        Due.same("pages", x.count(4), 0);
        Due.same("exports", Use.find(x, "f"), -1);
        Due.thrown("call(0)", IllegalArgumentException.class, () -> x.call(0));
        Due.thrown("global(0)", IllegalArgumentException.class, () -> x.global(0));
        Due.thrown("memory(0)", IllegalArgumentException.class, () -> x.memory(0));
    }

    /** Function 0 fills the bytes from one address to another, 1 joins them by or, 2 grows the memory. */
    private static Build filler(String limits) {
        return new Build().type("60 02 7F 7F 00").type("60 02 7F 7F 01 7E").type(Build.I32_TO_I32)
            .function(0, "00 03 40 20 00 42 7F 37 03 00 20 00 41 08 6A 22 00 20 01 47 0D 00 0B 0B")
            .function(1, "01 01 7E 03 40 20 02 20 00 29 03 00 84 21 02 20 00 41 08 6A 22 00 20 01 47 0D 00 0B 20 02 0B")
            .function(2, "00 20 00 40 00 0B").memory(limits);
    }

    private static void pagesAre(String what, WaferRunner x, long due) {
        Due.same(what + ": the first page", Use.call(x, 1, 0, 65536), due);
        Due.same(what + ": the second page", Use.call(x, 1, 65536, 131072), due);
    }

    /** Each of its bytes, whatever the modules before have put there. */
    private static void allOfTheMemoryIsZero() {
        for (String between : new String[] {"00 02", "00 01", "00 00", ""}) {
            WaferRunner x = Use.with(filler("00 02"));
            pagesAre("a new memory", x, 0);
            Use.call(x, 0, 0, 65536);
            Use.call(x, 0, 65536, 131072);
            pagesAre("a full memory", x, -1);
            Due.same("not a module", Use.load(x, new byte[9]), 1);
            pagesAre("a memory behind a module that was none", x, -1);
            Due.same("between", Use.load(x, (between.isEmpty() ? new Build() : filler(between)).bytes()), 0);
            Due.same("a module", Use.load(x, filler("00 02").bytes()), 0);
            pagesAre("the memory of the next module", x, 0);
            Use.call(x, 0, 65536, 131072);
            Due.same("a module that grows", Use.load(x, filler("00 00").bytes()), 0);
            Due.same("grow by 1", Use.call(x, 2, 1), 0);
            Due.same("grow by 1 more", Use.call(x, 2, 1), 1);
            pagesAre("pages that were grown", x, 0);
        }
    }

    private static void staysIfTheNextIsNone() {
        WaferRunner x = Use.with(counter());
        Use.answers("the first call", x, 101);
        byte[] notRead = new Build().type(Build.NONE_TO_NONE).function(0, "01 01 7F 41 05 FF 0B").global("7F 01 41 07 0B")
            .memory("00 00").export("g", 0, 0).bytes();
        byte[] notValid = new Build().type(Build.NONE_TO_NONE).type(Build.I32_TO_I32).function(1, "00 41 09 0B")
            .function(0, "01 01 7F 41 05 0B").global("7F 01 41 07 0B").memory("00 00").export("g", 0, 0).bytes();
        for (int round = 0; round < 3; round++) {
            Due.same("not read", Use.load(x, notRead), 1);
            Due.same("not valid", Use.load(x, notValid), 2);
            Due.same("functions", x.count(2), 1);
            Due.same("globals", x.count(3), 2);
            Due.same("pages", x.count(4), 2);
            Due.same("steps of the latest call", x.count(5), 11);
            Due.same("global", x.global(0), 101 + round);
            Due.same("memory", x.memory(0), 101 + round);
            Due.same("its export", Use.find(x, "f"), 0);
            Due.same("no other's export", Use.find(x, "g"), -1);
            Use.answers("the next call", x, 102 + round);
        }
    }

    private static void argumentsStay() {
        WaferRunner x = new WaferRunner();
        x.argument(20);
        x.argument(3);
        byte[] minus = Build.one(Build.TWO_I32_TO_I32, "00 20 00 20 01 6B 0B");
        Due.same("reason", Use.load(x, minus), 0);
        Due.same("arguments behind module", x.count(6), 2);
        Due.same("not a module", Use.load(x, new byte[3]), 1);
        Due.same("arguments behind one that threw", x.count(6), 2);
        Due.same("call", x.call(0), 17);
    }

    private static void theTapeIsEmpty() {
        WaferRunner x = new WaferRunner();
        Use.tape(x, Build.hex(Build.HEAD));
        Due.same("module", x.module(), 0);
        Due.same("the tape", x.count(0), 0);
        Due.thrown("module of the empty tape", UnsupportedOperationException.class, () -> x.module());
        Due.same("the module before stays", x.count(2), 0);
        x.feed(1, 2, 3, 4, 5);
        Due.thrown("module of something else", UnsupportedOperationException.class, () -> x.module());
        Due.same("the tape is empty then, too", x.count(0), 0);
    }

    private static void fullTape() {
        // Two thousand bytes: a head, and a custom section that fills the rest.
        byte[] whole = Build.hex(Build.HEAD + Build.section(0, "00" + Build.times(1988, "AA")));
        Due.same("length", whole.length, 2000);
        Use.read("a full tape", whole, 0);
        // As many instructions as there is room for.
        int room = 2000 - Build.one(Build.NONE_TO_NONE, "00 0B" + Build.times(1900, "01")).length + 1900;
        byte[] nops = Build.one(Build.NONE_TO_NONE, "00" + Build.times(room, "01") + "0B");
        Due.same("length", nops.length, 2000);
        WaferRunner x = Use.with(nops);
        Use.answers("a full tape of nops", x, 0);
        Due.same("steps", x.count(5), room);
        byte[] drops = Build.one(Build.NONE_TO_NONE, "00 00" + Build.times(room - 1, "1A") + "0B");
        Use.read("a full tape of drops", drops, 0);
        byte[] selects = Build.one(Build.NONE_TO_I32, "00 00" + Build.times(room - 2, "1B") + "0B");
        Use.read("a full tape of selects", selects, 0);
        byte[] ends = Build.one(Build.NONE_TO_NONE, "00" + Build.times(room, "0B") + "0B");
        Use.read("a full tape of ends", ends, 1);
        byte[] labels = Build.one(Build.NONE_TO_NONE, "00" + Build.times(35, "0E 32" + Build.times(51, "00")) + "0B");
        Use.read("many labels", labels, 2);
        byte[] reached = Build.one(Build.NONE_TO_NONE, "00 00" + Build.times(35, "0E 32" + Build.times(51, "00")) + "0B");
        Use.read("many labels that can't be reached", reached, 0);
    }
}
