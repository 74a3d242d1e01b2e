import java.util.Arrays;
import java.util.function.LongSupplier;

/**
 * Promises 1 to 10: objects that have one module after the other, up to their 512th call, each answer against that of
 * the twin, which tells the document a second time. It can be given how many objects to make, and from which seed on.
 */
public final class TwinTest {
    private static final int OBJECTS = 300;
    private static final int CALLS = 512;

    /** How often each reason was told; none may be missing. */
    private static final int[] REASONS = new int[9];

    private final WaferRunner x = new WaferRunner();
    private final Twin twin = new Twin();
    private final Maker maker;
    private final long seed;
    private int calls;

    private TwinTest(long seed) {
        this.seed = seed;
        maker = new Maker(seed);
    }

    public static void main(String[] args) {
        int objects = args.length > 0 ? Integer.parseInt(args[0]) : OBJECTS;
        int first = args.length > 1 ? Integer.parseInt(args[1]) : 0;
        for (int seed = first; seed < first + objects; seed += 2) {
            // Two objects take turns: neither may know of the other.
            TwinTest one = new TwinTest(seed);
            TwinTest other = new TwinTest(seed + 1);
            while (one.calls < CALLS || other.calls < CALLS) {
                one.goOn();
                other.goOn();
            }
        }
        for (int reason = 0; reason < REASONS.length; reason++) {
            Due.isTrue("reason " + reason + " was told " + REASONS[reason] + " times", REASONS[reason] > objects / 10);
        }
        Due.finish();
    }

    private static String outcome(LongSupplier call) {
        try {
            return Long.toString(call.getAsLong());
        } catch (RuntimeException e) {
            return e.getClass().getSimpleName();
        }
    }

    private void same(String what, LongSupplier call, LongSupplier due) {
        if (calls == CALLS) {
            return;
        }
        calls++;
        String got = outcome(call);
        String want = outcome(due);
        Due.isTrue("object " + seed + ", call " + calls + ": " + what + " answered " + got + ", due is " + want,
            got.equals(want));
    }

    private void goOn() {
        if (calls == CALLS) {
            return;
        }
        byte[] bytes;
        switch (maker.below(8)) {
            case 0 -> bytes = maker.changed();
            case 1, 2, 3 -> bytes = maker.withChangedCode();
            default -> bytes = maker.whole();
        }
        bring(bytes);
        same("module() of " + Build.text(bytes), () -> x.module(), () -> twin.module());
        same("count(1)", () -> x.count(1), () -> twin.count(1));
        REASONS[twin.count(1)]++;
        for (int left = maker.below(12); left > 0 && calls < CALLS; left--) {
            use();
        }
    }

    private void bring(byte[] bytes) {
        byte[] padded = Arrays.copyOf(bytes, (bytes.length + 19) / 20 * 20);
        for (int at = 0; at < padded.length; at += 20) {
            int[] five = new int[5];
            for (int k = 0; k < 20; k++) {
                five[k / 4] = five[k / 4] << 8 | padded[at + k] & 255;
            }
            same("feed", () -> x.feed(five[0], five[1], five[2], five[3], five[4]), () -> twin.feed(five));
        }
        same("end", () -> x.end(bytes.length), () -> twin.end(bytes.length));
    }

    private void use() {
        int choice = maker.below(12);
        if (choice == 0) {
            bring(Build.hex(new String[] {"", "61", "7A 62", "00", "FF"}[maker.below(5)]));
            same("find", () -> x.find(), () -> twin.find());
        } else if (choice == 1) {
            long v = maker.constant();
            same("argument", () -> x.argument(v), () -> twin.argument(v));
        } else {
            int f = maker.below(Math.max(1, twin.count(2)));
            int wanted = maker.below(10) == 0 ? maker.below(9) : twin.parametersOf(f);
            while (twin.count(6) < wanted && calls < CALLS) {
                long v = maker.constant();
                same("argument", () -> x.argument(v), () -> twin.argument(v));
            }
            same("call(" + f + ")", () -> x.call(f), () -> twin.call(f));
            REASONS[twin.count(1)]++;
            look();
        }
    }

    private void look() {
        int what = new int[] {1, 5, 5, 4, 6, 0, 3}[maker.below(7)];
        same("count(" + what + ")", () -> x.count(what), () -> twin.count(what));
        int g = maker.below(5);
        same("global(" + g + ")", () -> x.global(g), () -> twin.global(g));
        int i = twin.latest() + maker.below(9) - 1;
        same("memory(" + i + ")", () -> x.memory(i), () -> twin.memory(i));
    }
}
