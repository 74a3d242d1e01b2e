import java.util.function.IntFunction;

/**
 * READ: each "at most" at the last number that is taken and the first that is refused; and what the last one is good
 * for, since to be taken is not enough.
 */
public final class AtMostTest {
    private static final String NOTHING = Build.NONE_TO_NONE;

    public static void main(String[] args) {
        types();
        parametersAndResults();
        functionsAndCodes();
        memories();
        globals();
        exports();
        names();
        locals();
        blocks();
        labels();
        tapes();
        Due.finish();
    }

    /** Up to most it is taken, from there on refused. */
    private static void atMost(int most, String what, IntFunction<Build> module) {
        for (int n = Math.max(0, most - 2); n <= most; n++) {
            Use.read(n + " " + what, module.apply(n).bytes(), 0);
        }
        Use.read(most + 1 + " " + what, module.apply(most + 1).bytes(), 1);
        Use.read(most + 2 + " " + what, module.apply(most + 2).bytes(), 1);
    }

    private static Build typesOf(int n) {
        Build build = new Build();
        for (int t = 1; t < n; t++) {
            build.type(NOTHING);
        }
        return n == 0 ? build : build.type(Build.I64_TO_I64);
    }

    private static void types() {
        atMost(20, "types", AtMostTest::typesOf);
        WaferRunner x = Use.with(typesOf(20).function(19, "00 20 00 0B"));
        Due.same("the 20th type", Use.call(x, 0, -5), -5);
        Use.read("a 21st type's index", typesOf(20).function(20, "00 20 00 0B").bytes(), 2);
        Use.read("the first type's index of none", new Build().function(0, "00 0B").bytes(), 2);
    }

    private static String typeOf(int parameters, int results) {
        return "60" + Build.number(parameters) + Build.times(parameters, "7E") + Build.number(results)
            + Build.times(results, "7E");
    }

    private static void parametersAndResults() {
        atMost(8, "parameters", n -> new Build().type(typeOf(n, 0)).function(0, "00 0B"));
        atMost(8, "parameters of the last of 20 types", n -> typesOf(19).type(typeOf(n, 1)));
        atMost(1, "results", n -> new Build().type(typeOf(0, n)).function(0, "00 00 0B"));
        for (int n = 0; n <= 8; n++) {
            WaferRunner x = Use.with(new Build().type(typeOf(n, 0)).type(Build.NONE_TO_I64).function(0, "00 0B")
                .function(1, "00" + Build.times(n, "42 07") + "10 00 42 09 0B"));
            for (int given = 0; given <= 8; given++) {
                for (int k = 0; k < given; k++) {
                    x.argument(k);
                }
                if (given == n) {
                    Due.same(n + " for " + n, x.call(0), 0);
                } else {
                    Due.thrown(given + " for " + n, IllegalArgumentException.class, () -> x.call(0));
                }
                Due.same("they went", x.count(6), 0);
            }
            Due.same("a call with " + n, x.call(1), 9);
        }
    }

    private static Build functionsOf(int n) {
        Build build = new Build().type(Build.NONE_TO_I32);
        for (int f = 0; f < n; f++) {
            build.function(0, "00 41" + Build.signed(f) + "0B");
        }
        return build;
    }

    private static void functionsAndCodes() {
        atMost(30, "functions", AtMostTest::functionsOf);
        WaferRunner x = Use.with(functionsOf(30).export("last", 0, 29));
        Due.same("functions", x.count(2), 30);
        for (int f = 0; f < 30; f++) {
            Due.same("call(" + f + ")", x.call(f), f);
        }
        Due.thrown("call(30)", IllegalArgumentException.class, () -> x.call(30));
        Due.same("find", Use.find(x, "last"), 29);
        Use.read("an export of the 31st", functionsOf(30).export("last", 0, 30).bytes(), 2);
        // As many codes as functions: none, one too few, one too many.
        for (int n : new int[] {0, 1, 2, 29, 30}) {
            Use.read(n + " functions, a code more", functionsOf(n).code("00 41 00 0B").bytes(), 1);
            Use.read(n + " functions, no section of codes",
                Build.hex(Build.HEAD + Build.section(1, "01 60 00 00") + Build.section(3,
                    Build.number(n) + Build.times(n, "00"))), n == 0 ? 0 : 1);
            Use.read(n + " functions, no codes in the section",
                Build.hex(Build.HEAD + Build.section(1, "01 60 00 00") + Build.section(3,
                    Build.number(n) + Build.times(n, "00")) + "0A 01 00"), n == 0 ? 0 : 1);
        }
        Use.read("no section of functions, no codes", Build.hex(Build.HEAD + "0A 01 00"), 0);
        Use.read("30 functions, 29 codes", Build.hex(Build.HEAD + Build.section(1, "01 60 00 00")
            + Build.section(3, "1E" + Build.times(30, "00"))
            + Build.section(10, "1D" + Build.times(29, "02 00 0B"))), 1);
    }

    private static void memories() {
        atMost(1, "memories", n -> {
            Build build = new Build();
            for (int k = 0; k < n; k++) {
                build.memory("00 01");
            }
            return build;
        });
        for (int flag = 0; flag < 256; flag++) {
            Use.read("flag " + flag, new Build().memory(String.format("%02X 01", flag)).bytes(), flag == 0 ? 0 : 1);
            Use.read("flag " + flag + " and a most", new Build().memory(String.format("%02X 01 02", flag)).bytes(),
                flag == 1 ? 0 : 1);
        }
    }

    private static Build globalsOf(int n) {
        Build build = new Build();
        for (int g = 0; g < n; g++) {
            build.global("7E 01 42" + Build.signed(1000 + g) + "0B");
        }
        return build;
    }

    private static void globals() {
        atMost(20, "globals", AtMostTest::globalsOf);
        WaferRunner x = Use.with(globalsOf(20).type(Build.I64_TO_I64).function(0, "00 23 13 20 00 24 13 0B"));
        Due.same("globals", x.count(3), 20);
        Due.same("the 20th in a code", Use.call(x, 0, -5), 1019);
        Due.same("the 20th", x.global(19), -5);
        Due.same("the 19th", x.global(18), 1018);
        Due.thrown("the 21st", IllegalArgumentException.class, () -> x.global(20));
        Use.read("the 21st in a code", globalsOf(20).type(NOTHING).function(0, "00 23 14 1A 0B").bytes(), 2);
        Use.read("the 21st as an export", globalsOf(20).export("g", 3, 20).bytes(), 2);
        for (int flag = 0; flag < 256; flag++) {
            Use.read("a global with flag " + flag,
                new Build().global(String.format("7F %02X 41 00 0B", flag)).bytes(), flag <= 1 ? 0 : 1);
            Use.read("a global of " + flag, new Build().global(String.format("7F 00 %02X 00 0B", flag)).bytes(),
                flag == 0x41 ? 0 : flag == 0x42 ? 2 : 1);
            Use.read("a global that ends with " + flag,
                new Build().global(String.format("7F 00 41 00 %02X", flag)).bytes(), flag == 0x0B ? 0 : 1);
        }
    }

    private static Build exportsOf(int n) {
        Build build = new Build().type(NOTHING).function(0, "00 0B").function(0, "00 0B").memory("00 01")
            .global("7F 00 41 00 0B");
        for (int k = 0; k < n; k++) {
            build.export("e" + k, k == n - 1 ? 0 : k % 3 == 0 ? 0 : k % 3 + 1, k == n - 1 ? 1 : 0);
        }
        return build;
    }

    private static void exports() {
        atMost(40, "exports", AtMostTest::exportsOf);
        WaferRunner x = Use.with(exportsOf(40));
        Due.same("the 40th", Use.find(x, "e39"), 1);
        Due.same("the 37th", Use.find(x, "e36"), 0);
        Due.same("the 39th, a global", Use.find(x, "e38"), -1);
        Use.read("the 40th as the first", exportsOf(39).export("e0", 0, 0).bytes(), 2);
        Use.read("the 40th as the 39th", exportsOf(39).export("e38", 3, 0).bytes(), 2);
        for (int kind = 0; kind < 256; kind++) {
            Use.read("an export of kind " + kind, Build.hex(Build.HEAD + Build.section(1, "01 60 00 00")
                + Build.section(3, "01 00") + "05 03 01 00 01" + Build.section(6, "01 7F 00 41 00 0B")
                + Build.section(7, String.format("01 01 61 %02X 00", kind)) + Build.section(10, "01 02 00 0B")),
                kind == 0 || kind == 2 || kind == 3 ? 0 : 1);
        }
    }

    private static void names() {
        Build two = new Build().type(NOTHING).function(0, "00 0B").function(0, "00 0B");
        atMost(30, "bytes of a name", n -> new Build().type(NOTHING).function(0, "00 0B").export("x".repeat(n), 0, 0));
        String same = "y".repeat(29);
        WaferRunner x = Use.with(two.export(same + "a", 0, 0).export(same + "b", 0, 1));
        Due.same("30 bytes", Use.find(x, same + "a"), 0);
        Due.same("30 bytes, but for the last alike", Use.find(x, same + "b"), 1);
        Due.same("29 bytes", Use.find(x, same), -1);
        Due.same("31 bytes", Use.find(x, same + "aa"), -1);
        Use.read("30 bytes twice", two.export(same + "b", 0, 0).bytes(), 2);
        for (int b = 0; b < 256; b++) {
            Build any = new Build().type(NOTHING).function(0, "00 0B").export(String.valueOf((char) b), 0, 0);
            WaferRunner y = Use.with(any);
            Due.same("a name of byte " + b, Use.find(y, String.valueOf((char) b)), 0);
            Due.same("a name of another byte", Use.find(y, String.valueOf((char) (b ^ 0x80))), -1);
        }
    }

    private static Build localsOf(String locals) {
        return new Build().type(NOTHING).function(0, locals + "0B");
    }

    private static void locals() {
        atMost(60, "runs", n -> localsOf(Build.number(n) + Build.times(n, "01 7F")));
        atMost(60, "empty runs", n -> localsOf(Build.number(n) + Build.times(n, "00 7F")));
        atMost(60, "in a run", n -> localsOf("01" + Build.number(n) + "7E"));
        atMost(60, "in a run behind an empty one", n -> localsOf("02 00 7F" + Build.number(n) + "7E"));
        atMost(59, "in a run behind one of 1", n -> localsOf("02 01 7F" + Build.number(n) + "7E"));
        atMost(1, "in a run behind one of 59", n -> localsOf("02 3B 7F" + Build.number(n) + "7E"));
        atMost(0, "in a run behind one of 60", n -> localsOf("02 3C 7F" + Build.number(n) + "7E"));
        // The parameters are not among the 60.
        String type = "60 08" + Build.times(8, "7E") + "01 7E";
        WaferRunner x = Use.with(Build.one(type, "02 3B 7F 01 7E 20 07 21 43 20 43 20 43 7C 0B"));
        Use.answers("the last of 68", x, 14, 1, 2, 3, 4, 5, 6, 7, 7);
        Use.read("one behind the last of 68", Build.one(type, "02 3B 7F 01 7E 20 44 0B"), 2);
        // What one code has does not count for the next.
        Use.read("60 in each of two codes",
            new Build().type(NOTHING).function(0, "01 3C 7F 0B").function(0, "01 3C 7F 0B").bytes(), 0);
        for (int kind = 0; kind < 256; kind++) {
            boolean good = kind == 0x7F || kind == 0x7E;
            String hex = String.format("%02X", kind);
            Use.read("a local of " + hex, localsOf("01 01" + hex).bytes(), good ? 0 : 1);
            Use.read("no local of " + hex, localsOf("01 00" + hex).bytes(), good ? 0 : 1);
            Use.read("a parameter of " + hex, new Build().type("60 01" + hex + "00").bytes(), good ? 0 : 1);
            Use.read("a result of " + hex, new Build().type("60 00 01" + hex).bytes(), good ? 0 : 1);
            Use.read("a global of " + hex, new Build().global(hex + "00 42 00 0B").bytes(),
                kind == 0x7E ? 0 : kind == 0x7F ? 2 : 1);
            Use.read("a type's form " + hex, new Build().type(hex + "00 00").bytes(), kind == 0x60 ? 0 : 1);
            Use.read("a block of " + hex, localsOf("00 02" + hex + "00 0B 00").bytes(), good || kind == 0x40 ? 0 : 1);
        }
    }

    private static Build nested(int n, String opener) {
        return new Build().type(NOTHING).function(0, "00 00" + Build.times(n, opener) + Build.times(n, "0B") + "0B");
    }

    private static Build mixed(int n) {
        StringBuilder body = new StringBuilder("00");
        for (int k = 0; k < n; k++) {
            body.append(k % 3 == 0 ? "02 40" : k % 3 == 1 ? "03 40" : "41 00 04 40");
        }
        return new Build().type(NOTHING).function(0, body + Build.times(n, "0B") + "0B");
    }

    private static void blocks() {
        atMost(100, "blocks", n -> nested(n, "02 40"));
        atMost(100, "loops", n -> nested(n, "03 40"));
        atMost(100, "blocks, loops and ifs", AtMostTest::mixed);
        atMost(100, "ifs", n -> new Build().type(NOTHING)
            .function(0, "00" + Build.times(n, "41 00 04 40") + Build.times(n, "0B") + "0B"));
        atMost(100, "elses", n -> new Build().type(NOTHING)
            .function(0, "00" + Build.times(n, "41 00 04 40 05") + Build.times(n, "0B") + "0B"));
        // A branch out of all 100, to the function, and one label too far.
        String open = "00" + Build.times(100, "02 40");
        String close = Build.times(100, "0B") + "41 07 0B";
        Use.runs("out of the outermost", Build.NONE_TO_I32, open + "0C 63" + close, 7);
        Use.runs("out of the function", Build.NONE_TO_I32, open + "41 05 0C 64" + close, 5);
        Use.read("a label too far", Build.one(Build.NONE_TO_I32, open + "0C 65" + close), 2);
        // Blocks that were closed are not open, in one code or in two.
        Use.read("100 blocks, twice", Build.one(NOTHING, "00" + Build.times(2,
            Build.times(100, "02 40") + Build.times(100, "0B")) + "0B"), 0);
        Use.read("100 blocks in each of two codes",
            nested(100, "02 40").function(0, "00" + Build.times(100, "02 40") + Build.times(101, "0B")).bytes(), 0);
    }

    private static Build table(int n) {
        return new Build().type(NOTHING).function(0, "00 41 00 0E" + Build.number(n) + Build.times(n + 1, "00") + "0B");
    }

    private static void labels() {
        atMost(50, "labels besides the last", AtMostTest::table);
        // Only the 50th label and the last leave the inner block for elsewhere.
        WaferRunner x = Use.with(Build.one(Build.I32_TO_I32, "00 02 40 02 40 02 40 20 00 0E 32" + Build.times(49, "00")
            + "01 02 0B 41 0A 0F 0B 41 0B 0F 0B 41 0C 0B"));
        for (int n : new int[] {0, 1, 48}) {
            Use.answers("label", x, 10, n);
        }
        Use.answers("the 50th label", x, 11, 49);
        for (long n : new long[] {50, 51, Integer.MAX_VALUE, Integer.MIN_VALUE, -1}) {
            Use.answers("the last label", x, 12, n);
        }
        Use.answers("a label by the lowest bits", x, 11, (1L << 32) + 49);
    }

    /** 2000 bytes again and again: what one module took up is free for the next. */
    private static void tapes() {
        byte[] nops = Build.one(NOTHING, "00" + Build.times(1969, "01") + "0B");
        byte[] labels = Build.one(NOTHING, "00 00" + Build.times(36, "0E 32" + Build.times(51, "00"))
            + Build.times(60, "01") + "0B");
        for (byte[] module : new byte[][] {nops, labels}) {
            Due.same("bytes of a full tape", module.length, 2000);
            WaferRunner x = new WaferRunner();
            for (int round = 0; round < 4; round++) {
                Use.tape(x, module);
                Due.same("a full tape, round " + round, x.module(), 1);
            }
        }
        WaferRunner refused = new WaferRunner();
        byte[] open = nops.clone();
        open[1999] = 0x01;
        for (int round = 0; round < 3; round++) {
            Use.tape(refused, open);
            Due.thrown("a full tape without its end", UnsupportedOperationException.class, () -> refused.module());
        }
        Due.same("and then one with it", Use.load(refused, nops), 0);
        Use.answers("which runs", refused, 0);
        Due.same("all its steps", refused.count(5), 1969);
    }
}
