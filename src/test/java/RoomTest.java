import java.lang.management.ManagementFactory;

/** LANGUAGE.md, rule 12, and the one room of a run: calls use again what the constructor made. */
public final class RoomTest {
    /** An object is used for 512 calls, and a round takes eight. */
    private static final int ROUNDS = 60;
    /** Far below what a new memory for each module would take, but enough for as many exceptions. */
    private static final long BYTES_MOST = 1_500_000;

    private static long allocated() {
        return ((com.sun.management.ThreadMXBean) ManagementFactory.getThreadMXBean()).getCurrentThreadAllocatedBytes();
    }

    public static void main(String[] args) {
        byte[] good = Build.one(Build.NONE_TO_NONE, "01 3C 7E 41 00 41 01 36 00 00 0B");
        byte[] bad = Build.one(Build.NONE_TO_NONE, "01 3C 7E 41 00 41 01 6A 0B");
        byte[] endless = Build.one(Build.NONE_TO_NONE, "00 03 40 42 7F 42 02 80 1A 42 7F 42 7E 82 1A 0C 00 0B 0B");
        run(good, 1);
        run(bad, 1);
        run(endless, 1);
        within("modules", run(good, ROUNDS));
        within("modules that are none", run(bad, ROUNDS));
        within("runs without end", run(endless, ROUNDS));
        long before = allocated();
        WaferRunner x = new WaferRunner();
        long made = allocated() - before;
        Due.isTrue("an object takes " + made, made < 1_000_000);
        Due.same("it is new", x.count(2), -1);
        Due.finish();
    }

    private static void within(String what, long bytes) {
        Due.isTrue(what + " take " + bytes, bytes < BYTES_MOST);
    }

    private static long run(byte[] module, int rounds) {
        WaferRunner x = new WaferRunner();
        long sum = 0;
        for (int k = 0; k < rounds; k++) {
            Use.tape(x, module);
            long before = allocated();
            try {
                x.module();
                x.call(0);
            } catch (UnsupportedOperationException | ArithmeticException e) {
                Due.isTrue("a reason", x.count(1) != 0);
            }
            sum += allocated() - before;
        }
        return sum;
    }
}
