import java.nio.charset.StandardCharsets;
import java.util.ArrayList;
import java.util.Arrays;
import java.util.List;
import java.util.function.LongSupplier;

/** Promises 1 to 10 in long runs: 512 calls of all kinds on one object, each answer against the model. */
public final class StoryTest {
    private static final int RUNS = 400;
    private static final int CALLS = 512;
    private static final long[] NUMBERS = {
        0, 1, -1, 2, 3, 5, 7, 98, 99, 100, 101, 19999, 20000, 65528, 65529, 65535, 65536, 65537, 131064, 131065, 131071,
        131072, -2, -8, 0x7FFFFFFFL, 0x80000000L, 0xFFFFFFFFL, 1L << 32, (1L << 32) + 1, Long.MAX_VALUE, Long.MIN_VALUE
    };

    private final WaferRunner x = new WaferRunner();
    private final Model model;
    private final List<Model.Known> known;
    private final int run;
    private int calls;
    private long seed;

    private StoryTest(int run, List<Model.Known> known) {
        this.run = run;
        this.known = known;
        this.seed = run * 7919L + 1;
        model = new Model(known);
    }

    public static void main(String[] args) {
        List<Model.Known> known = catalogue();
        for (int run = 0; run < RUNS; run++) {
            StoryTest story = new StoryTest(run, known);
            while (story.calls < CALLS) {
                story.goOn();
            }
        }
        Due.finish();
    }

    private static List<Model.Known> catalogue() {
        Model.Deed[] deeds = Model.Deed.values();
        Model.Deed[] turned = new Model.Deed[deeds.length];
        for (int k = 0; k < deeds.length; k++) {
            turned[k] = deeds[deeds.length - 1 - k];
        }
        Model.Deed[] without = {Model.Deed.ADD, Model.Deed.DEEP, Model.Deed.STOP, Model.Deed.SET};
        List<Model.Known> known = new ArrayList<>();
        known.add(good(deeds, new long[] {100, 5}, "00 01", 1, 65536));
        known.add(good(turned, new long[] {-1, Long.MIN_VALUE, 9}, "01 00 01", 0, 1));
        known.add(good(deeds, new long[] {Integer.MAX_VALUE, -7, 1, 2}, "01 02 02", 2, 2));
        known.add(good(without, new long[] {3, 4}, null, 0, 0));
        known.add(good(new Model.Deed[0], new long[0], null, 0, 0));
        List<Model.Known> bad = new ArrayList<>();
        for (Model.Known one : known) {
            byte[] cut = Arrays.copyOf(one.bytes, one.bytes.length - 1);
            bad.add(new Model.Known(cut, 1, one.deeds, one.globals, one.pages, one.most));
        }
        bad.add(new Model.Known(build(deeds, new long[] {0, 0}, "00 03").bytes(), 2, deeds, new long[2], 3, 3));
        bad.add(new Model.Known(build(turned, new long[] {0, 0}, "01 02 01").bytes(), 2, deeds, new long[2], 2, 1));
        bad.add(new Model.Known(build(deeds, new long[] {0, 0}, null).bytes(), 2, deeds, new long[2], 0, 0));
        known.addAll(bad);
        return known;
    }

    private static Model.Known good(Model.Deed[] deeds, long[] globals, String limits, int pages, int most) {
        return new Model.Known(build(deeds, globals, limits).bytes(), 0, deeds, globals, pages, most);
    }

    /** The first global is an i32, all others are i64. */
    private static Build build(Model.Deed[] deeds, long[] globals, String limits) {
        Build build = new Build();
        for (int f = 0; f < deeds.length; f++) {
            build.type(deeds[f].type()).function(f, deeds[f].code(f)).export(deeds[f].name(), 0, f);
        }
        for (int g = 0; g < globals.length; g++) {
            build.global((g == 0 ? "7F 01 41" : "7E 01 42") + Build.signed(globals[g]) + "0B");
        }
        if (limits != null) {
            build.memory(limits).export("memory", 2, 0);
        }
        return build;
    }

    /** The same numbers in every run of the test. */
    private int below(int bound) {
        seed = seed * 6364136223846793005L + 1442695040888963407L;
        return (int) ((seed >>> 33) % bound);
    }

    private long number() {
        return NUMBERS[below(NUMBERS.length)];
    }

    private static String outcome(LongSupplier call) {
        try {
            return Long.toString(call.getAsLong());
        } catch (RuntimeException e) {
            return e.getClass().getSimpleName();
        }
    }

    private void same(String what, LongSupplier call, LongSupplier due) {
        if (calls == CALLS) {
            return;
        }
        calls++;
        String got = outcome(call);
        String want = outcome(due);
        Due.isTrue("run " + run + ", call " + calls + ": " + what + " answered " + got + ", due is " + want,
            got.equals(want));
    }

    private void goOn() {
        int choice = below(100);
        if (choice < 5) {
            // The first five are modules, the others are none.
            bring(known.get(below(below(3) > 0 ? 5 : known.size())).bytes);
        } else if (choice < 9) {
            bring(Model.Deed.values()[below(Model.Deed.values().length)].name().getBytes(StandardCharsets.ISO_8859_1));
        } else if (choice < 11) {
            module();
        } else if (choice < 14) {
            same("find()", () -> x.find(), () -> model.find());
        } else if (choice < 18) {
            for (int k = below(25) == 0 ? 101 : 1; k > 0; k--) {
                feed(-1 - below(9), below(9), below(9), below(9), below(9));
            }
        } else if (choice < 21) {
            int n = below(60) - 3;
            same("end(" + n + ")", () -> x.end(n), () -> model.end(n));
        } else if (choice < 25) {
            argument(number());
        } else if (choice < 30) {
            call(below(11) - 1);
        } else if (choice < 70) {
            callAsDue(below(9));
        } else {
            look();
        }
    }

    /** Puts the bytes on an empty tape, and most often uses them. */
    private void bring(byte[] bytes) {
        same("end(0)", () -> x.end(0), () -> model.end(0));
        byte[] padded = Arrays.copyOf(bytes, (bytes.length + 19) / 20 * 20);
        for (int at = 0; at < padded.length; at += 20) {
            int[] five = new int[5];
            for (int k = 0; k < 20; k++) {
                five[k / 4] = five[k / 4] << 8 | padded[at + k] & 255;
            }
            feed(five);
        }
        same("end(length)", () -> x.end(bytes.length), () -> model.end(bytes.length));
        if (below(4) > 0) {
            if (bytes.length > 0 && bytes[0] == 0) {
                module();
            } else {
                same("find()", () -> x.find(), () -> model.find());
            }
        }
    }

    private void feed(int... five) {
        same("feed", () -> x.feed(five[0], five[1], five[2], five[3], five[4]), () -> model.feed(five));
    }

    private void module() {
        same("module()", () -> x.module(), () -> model.module());
    }

    private void argument(long v) {
        same("argument(" + v + ")", () -> x.argument(v), () -> model.argument(v));
    }

    private void call(int f) {
        same("call(" + f + ")", () -> x.call(f), () -> model.call(f));
        same("count(1)", () -> x.count(1), () -> model.count(1));
        same("count(5)", () -> x.count(5), () -> model.count(5));
    }

    /** With as many arguments as the function takes, unless there are more already. */
    private void callAsDue(int f) {
        int missing = model.parametersOf(f) - model.count(6);
        boolean isGreat = missing == 2 && below(4) == 0;
        for (int k = 0; k < missing; k++) {
            argument(isGreat ? k == 0 ? Long.MIN_VALUE : -1 : number());
        }
        call(f);
    }

    private void look() {
        int what = below(9) - 1;
        same("count(" + what + ")", () -> x.count(what), () -> model.count(what));
        int g = below(6) - 1;
        same("global(" + g + ")", () -> x.global(g), () -> model.global(g));
        int i = (int) number();
        same("memory(" + i + ")", () -> x.memory(i), () -> model.memory(i));
    }
}
