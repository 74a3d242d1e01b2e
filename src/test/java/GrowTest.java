/**
 * RUN: "memory.grow: -1 above the most, or above 2 pages", VALID: "at most 2 pages at first, most at most 65536, and
 * not less than that", and promise 9: "0 .. its pages times 65536 - 1".
 */
public final class GrowTest {
    private static final int PAGE = 65536;
    private static final int GROW = 0;
    private static final int SIZE = 1;
    private static final int PUT = 2;
    private static final int TAKE = 3;
    /** By how many pages, as an i32 without sign. */
    private static final long[] MORE = {
        3, 4, 65534, 65535, 65536, 0x7FFFFFFF, 0x80000000L, 0xFFFFFFFEL, 0xFFFFFFFFL, 2, 1, 0
    };

    public static void main(String[] args) {
        limits();
        for (int first = 0; first <= 2; first++) {
            grows(first, 65536, "00" + Build.number(first));
            for (long most : new long[] {0, 1, 2, 3, 65535, 65536}) {
                if (most >= first) {
                    grows(first, most, "01" + Build.number(first) + Build.number(most));
                }
            }
        }
        twoStepsUp();
        bytesStay();
        Due.finish();
    }

    private static Build machine(String limits) {
        return new Build().type(Build.I32_TO_I32).type(Build.NONE_TO_I32).type("60 02 7F 7E 00").type(Build.I32_TO_I64)
            .function(0, "00 20 00 40 00 0B").function(1, "00 3F 00 0B").function(2, "00 20 00 20 01 37 00 00 0B")
            .function(3, "00 20 00 29 00 00 0B").memory(limits);
    }

    private static void limits() {
        for (long first : new long[] {0, 1, 2, 3, 4, 65535, 65536, 65537, 0xFFFFFFFFL}) {
            Use.read(first + " pages", new Build().memory("00" + Build.number(first)).bytes(), first <= 2 ? 0 : 2);
            for (long most : new long[] {0, 1, 2, 3, 4, 65535, 65536, 65537, 0x7FFFFFFFL, 0x80000000L, 0xFFFFFFFFL}) {
                boolean valid = first <= 2 && most <= 65536 && first <= most;
                Use.read(first + " pages, at most " + most,
                    new Build().memory("01" + Build.number(first) + Build.number(most)).bytes(), valid ? 0 : 2);
            }
        }
    }

    private static void grows(int first, long most, String limits) {
        for (WaferRunner x : Past.allWith(machine(limits).bytes())) {
            int pages = first;
            pagesAre(limits, x, pages);
            for (long more : MORE) {
                boolean fits = pages + more <= Math.min(2, most);
                Due.same(limits + ": from " + pages + " by " + more, Use.call(x, GROW, more), fits ? pages : -1);
                Due.same(limits + ": its reason", x.count(1), 0);
                Due.same(limits + ": its steps", x.count(5), 2);
                pages += fits ? (int) more : 0;
                pagesAre(limits, x, pages);
            }
            Due.same(limits + ": by the lowest bits", Use.call(x, GROW, 1L << 32), pages);
        }
    }

    private static void pagesAre(String what, WaferRunner x, int pages) {
        Due.same(what + ": count(4)", x.count(4), pages);
        Due.same(what + ": memory.size", x.call(SIZE), pages);
        if (pages > 0) {
            Due.same(what + ": the first byte", x.memory(0), 0);
            Due.same(what + ": the last byte", x.memory(pages * PAGE - 1), 0);
            Due.same(what + ": the last i64", Use.call(x, TAKE, pages * PAGE - 8), 0);
        }
        for (int i : new int[] {-1, pages * PAGE, pages * PAGE + 1}) {
            Due.thrown(what + ": memory(" + i + ")", IllegalArgumentException.class, () -> x.memory(i));
        }
        Due.thrown(what + ": behind the last i64", ArithmeticException.class,
            () -> Use.call(x, TAKE, pages * PAGE - 7));
        Due.same(what + ": its reason", x.count(1), 6);
    }

    private static void twoStepsUp() {
        for (WaferRunner x : Past.allWith(machine("01 00 02").bytes())) {
            Due.same("by 1", Use.call(x, GROW, 1), 0);
            pagesAre("one page", x, 1);
            Due.same("by 2, which is 3", Use.call(x, GROW, 2), -1);
            pagesAre("one page", x, 1);
            Due.same("by 1 more", Use.call(x, GROW, 1), 1);
            pagesAre("two pages", x, 2);
            Due.same("by 1 more, which is 3", Use.call(x, GROW, 1), -1);
            pagesAre("two pages", x, 2);
            Due.same("by 0", Use.call(x, GROW, 0), 2);
        }
        for (WaferRunner x : Past.allWith(machine("01 00 01").bytes())) {
            Due.same("by 2 of most 1", Use.call(x, GROW, 2), -1);
            Due.same("by 1 of most 1", Use.call(x, GROW, 1), 0);
            Due.same("by 1 more of most 1", Use.call(x, GROW, 1), -1);
            pagesAre("one page", x, 1);
        }
    }

    private static void bytesStay() {
        for (WaferRunner x : Past.allWith(machine("00 01").bytes())) {
            Use.call(x, PUT, 0, 0x1122334455667788L);
            Use.call(x, PUT, PAGE - 8, -1);
            Due.same("grow", Use.call(x, GROW, 1), 1);
            Due.same("the first bytes", Use.call(x, TAKE, 0), 0x1122334455667788L);
            Due.same("the last of the old bytes", x.memory(PAGE - 1), 255);
            Due.same("the first of the new bytes", x.memory(PAGE), 0);
            Due.same("over the border", Use.call(x, TAKE, PAGE - 4), 0xFFFFFFFFL);
            Due.same("that can't grow", Use.call(x, GROW, 1), -1);
            Due.same("the bytes behind that", Use.call(x, TAKE, PAGE - 4), 0xFFFFFFFFL);
        }
    }
}
