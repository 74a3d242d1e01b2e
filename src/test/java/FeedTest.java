/** Promises 2 and 3: feed and end. */
public final class FeedTest {
    public static void main(String[] args) {
        bytesComeHighestFirst();
        theTapeHasABound();
        endKeepsTheFirstBytes();
        Due.finish();
    }

    private static void bytesComeHighestFirst() {
        String name = "abcdefghijklmnopqrst";
        WaferRunner x = Use.with(new Build().type(Build.NONE_TO_NONE).function(0, "00 0B").function(0, "00 0B")
            .export(name, 0, 1).export("\u00FF\u00FE\u00FD\u00FC", 0, 0));
        Due.same("feed", x.feed(0x61626364, 0x65666768, 0x696A6B6C, 0x6D6E6F70, 0x71727374), 20);
        Due.same("find behind feed", x.find(), 1);
        x.feed(0xFFFEFDFC, 0, 0, 0, 0);
        x.end(4);
        Due.same("find with the highest bits", x.find(), 0);
        x.feed(0xFCFDFEFF, 0, 0, 0, 0);
        x.end(4);
        Due.same("find with the bytes turned round", x.find(), -1);
    }

    private static void theTapeHasABound() {
        WaferRunner x = new WaferRunner();
        for (int k = 1; k <= 100; k++) {
            Due.same("feed no. " + k, x.feed(k, k, k, k, k), 20 * k);
        }
        Due.thrown("feed beyond 2000", IndexOutOfBoundsException.class, () -> x.feed(1, 2, 3, 4, 5));
        Due.same("the tape is as before", x.count(0), 2000);
        Due.same("end(1981)", x.end(1981), 1981);
        Due.thrown("feed to 2001", IndexOutOfBoundsException.class, () -> x.feed(1, 2, 3, 4, 5));
        Due.same("the tape is as before", x.count(0), 1981);
        Due.same("end(1980)", x.end(1980), 1980);
        Due.same("feed to 2000", x.feed(1, 2, 3, 4, 5), 2000);
        Due.same("end(7)", x.end(7), 7);
        Due.same("feed behind 7 bytes", x.feed(1, 2, 3, 4, 5), 27);
    }

    private static void endKeepsTheFirstBytes() {
        WaferRunner x = new WaferRunner();
        Due.same("end(0) of an empty tape", x.end(0), 0);
        Due.thrown("end(1) of an empty tape", IllegalArgumentException.class, () -> x.end(1));
        Due.thrown("end(-1)", IllegalArgumentException.class, () -> x.end(-1));
        Due.thrown("end(least)", IllegalArgumentException.class, () -> x.end(Integer.MIN_VALUE));
        x.feed(0, 0, 0, 0, 0);
        Due.thrown("end(21) of 20", IllegalArgumentException.class, () -> x.end(21));
        Due.thrown("end(most) of 20", IllegalArgumentException.class, () -> x.end(Integer.MAX_VALUE));
        Due.same("the tape is as before", x.count(0), 20);
        Due.same("end(20)", x.end(20), 20);
        Due.same("end(19)", x.end(19), 19);
        Due.thrown("end(20) of 19", IllegalArgumentException.class, () -> x.end(20));
        Due.same("the tape has 19", x.count(0), 19);
        Due.same("end(0)", x.end(0), 0);
        Due.same("the tape has 0", x.count(0), 0);

        WaferRunner y = Use.with(new Build().type(Build.NONE_TO_NONE).function(0, "00 0B").export("ab", 0, 0));
        y.feed(0x61626364, 0, 0, 0, 0);
        y.end(2);
        Due.same("the first two bytes", y.find(), 0);
        y.feed(0x61FFFFFF, 0, 0, 0, 0);
        y.end(1);
        y.feed(0x62FFFFFF, 0, 0, 0, 0);
        y.end(2);
        Due.same("what comes goes behind what was kept", y.find(), 0);
    }
}
