import java.util.ArrayList;
import java.util.List;

/** MODULES: what each kind of section is for, where it is there, where it has nothing in it, and where it is left out. */
public final class PartsTest {
    private static final int[] IDS = {1, 3, 5, 6, 7, 10};
    /** Two types, three functions, a page that may become two, two globals, four exports. */
    private static final String[] CONTENTS = {
        "02 60 02 7E 7F 01 7E 60 01 7F 00",
        "03 00 01 00",
        "01 01 01 02",
        "02 7F 01 41 7D 0B 7E 00 42 80 80 80 80 10 0B",
        "04 01 61 00 02 01 62 00 00 01 63 02 00 00 03 01",
        "03" + Build.sized("00 20 00 20 01 AC 7C 0B") + Build.sized("00 20 00 24 00 41 09 20 00 3A 00 00 0B")
            + Build.sized("02 01 7E 01 7F 20 00 20 01 AC 7D 0B")
    };

    public static void main(String[] args) {
        acts("all sections", whole(""));
        customSections();
        leftOut();
        types();
        functionsAndCodes();
        memories();
        globals();
        values();
        Due.finish();
    }

    private static String section(int k) {
        return Build.section(IDS[k], CONTENTS[k]);
    }

    private static byte[] whole(String between) {
        StringBuilder s = new StringBuilder(Build.HEAD + between);
        for (int k = 0; k < IDS.length; k++) {
            s.append(section(k)).append(between);
        }
        return Build.hex(s.toString());
    }

    /** All that the sections of CONTENTS are for. */
    private static void acts(String what, byte[] module) {
        for (WaferRunner x : Past.allWith(module)) {
            Due.same(what + ": functions", x.count(2), 3);
            Due.same(what + ": globals", x.count(3), 2);
            Due.same(what + ": pages", x.count(4), 1);
            Due.same(what + ": global 0", x.global(0), -3);
            Due.same(what + ": global 1", x.global(1), 1L << 32);
            Due.same(what + ": find a", Use.find(x, "a"), 2);
            Due.same(what + ": find b", Use.find(x, "b"), 0);
            Due.same(what + ": find c, a memory", Use.find(x, "c"), -1);
            Due.same(what + ": find the empty name, a global", Use.find(x, ""), -1);
            Due.same(what + ": function 0", Use.call(x, 0, 1L << 40, -5), (1L << 40) - 5);
            Due.same(what + ": function 1", Use.call(x, 1, 300), 0);
            Due.same(what + ": what it put into global 0", x.global(0), 300);
            Due.same(what + ": what it put into byte 9", x.memory(9), 44);
            Due.same(what + ": function 2", Use.call(x, 2, 1L << 40, -5), (1L << 40) + 5);
        }
    }

    /** They say nothing of the module, whatever is in them and wherever they stand. */
    private static void customSections() {
        String[] customs = {"00 01 00", "00 05 04 6E 61 6D 65", "00 0B 04 6E 61 6D 65 00 61 73 6D 01 0A",
            "00 07 00 0A 04 01 02 00 0B", "00 06 01 FF 01 01 60 00", "00 01 00 00 01 00"};
        for (String custom : customs) {
            acts("section 0 everywhere", whole(custom));
            for (int place = 0; place <= IDS.length; place++) {
                StringBuilder s = new StringBuilder(Build.HEAD);
                for (int k = 0; k <= IDS.length; k++) {
                    s.append(k == place ? custom : "");
                    s.append(k < IDS.length ? section(k) : "");
                }
                acts("section 0 at place " + place, Build.hex(s.toString()));
            }
        }
    }

    /** Without a section, and with one that has nothing in it, there are none of its things. */
    private static void leftOut() {
        for (int mask = 0; mask < 1 << IDS.length; mask++) {
            StringBuilder without = new StringBuilder(Build.HEAD);
            StringBuilder empty = new StringBuilder(Build.HEAD);
            for (int k = 0; k < IDS.length; k++) {
                boolean isThere = (mask >> k & 1) == 1;
                without.append(isThere ? section(k) : "");
                empty.append(isThere ? section(k) : Build.section(IDS[k], "00"));
            }
            boolean hasTypes = (mask & 1) != 0;
            boolean hasFunctions = (mask & 2) != 0;
            boolean hasMemory = (mask & 4) != 0;
            boolean hasGlobals = (mask & 8) != 0;
            boolean hasExports = (mask & 16) != 0;
            boolean hasCodes = (mask & 32) != 0;
            boolean isWhole = hasMemory && hasGlobals;
            int reason = hasFunctions != hasCodes ? 1
                : hasFunctions && (!hasTypes || !isWhole) || hasExports && (!hasFunctions || !isWhole) ? 2 : 0;
            for (byte[] module : new byte[][] {Build.hex(without.toString()), Build.hex(empty.toString())}) {
                Use.read("sections " + Integer.toBinaryString(mask), module, reason);
                if (reason == 0) {
                    WaferRunner x = Use.with(module);
                    Due.same("functions", x.count(2), hasFunctions ? 3 : 0);
                    Due.same("globals", x.count(3), hasGlobals ? 2 : 0);
                    Due.same("pages", x.count(4), hasMemory ? 1 : 0);
                    Due.same("find", Use.find(x, "a"), hasExports ? 2 : -1);
                }
            }
        }
    }

    /** A type tells how many arguments there must be, what becomes of each, and what is answered. */
    private static void types() {
        long[] given = {0x1_8000_0001L, -0x1_0000_0002L, 7, 1L << 31, Long.MIN_VALUE, Long.MAX_VALUE, -1, 1L << 32};
        for (int n = 1; n <= 8; n++) {
            for (int mask : new int[] {0, 0xFF, 0x55, 0xAA, 0x0F, 0x81}) {
                StringBuilder type = new StringBuilder("60" + Build.number(n));
                for (int p = 0; p < n; p++) {
                    type.append((mask >> p & 1) == 1 ? "7E" : "7F");
                }
                Build build = new Build();
                List<Long> due = new ArrayList<>();
                for (int p = 0; p < n; p++) {
                    boolean isLong = (mask >> p & 1) == 1;
                    build.type(type + "01" + (isLong ? "7E" : "7F")).function(p, "00 20" + Build.number(p) + "0B");
                    due.add(isLong ? given[p] : (int) given[p]);
                }
                build.type(type + "00").function(n, "00 0B");
                for (WaferRunner x : Past.allWith(build.bytes())) {
                    for (int p = 0; p <= n; p++) {
                        for (int k = 0; k < n; k++) {
                            x.argument(given[k]);
                        }
                        Due.same("parameter " + p + " of " + type, x.call(p), p < n ? due.get(p) : 0);
                    }
                }
            }
        }
    }

    /** Function f has the type that stands at its place in section 3, and the code at its place in section 10. */
    private static void functionsAndCodes() {
        for (int n = 1; n <= 30; n++) {
            Build build = new Build().type(Build.NONE_TO_I32).type(Build.NONE_TO_I64).type(Build.NONE_TO_NONE);
            for (int f = 0; f < n; f++) {
                build.function(f % 3, "00" + (f % 3 == 0 ? "41" + Build.signed(-f) : f % 3 == 1
                    ? "42" + Build.signed(f + (1L << 40)) : "41" + Build.signed(f) + "1A") + "0B");
            }
            WaferRunner x = Use.with(build);
            int all = n;
            Due.same("functions", x.count(2), n);
            for (int f = 0; f < n; f++) {
                Due.same("function " + f + " of " + n, x.call(f), f % 3 == 0 ? -f : f % 3 == 1 ? f + (1L << 40) : 0);
                Due.same("its steps", x.count(5), f % 3 == 2 ? 2 : 1);
            }
            Due.thrown("function " + n, IllegalArgumentException.class, () -> x.call(all));
        }
    }

    private static void memories() {
        String[] limits = {"00 00", "00 01", "00 02", "01 00 00", "01 00 80 80 04", "01 01 01", "01 01 03", "01 02 02"};
        int[] pages = {0, 1, 2, 0, 0, 1, 1, 2};
        for (int k = 0; k < limits.length; k++) {
            for (WaferRunner x : Past.allWith(new Build().memory(limits[k]).bytes())) {
                Due.same("pages of " + limits[k], x.count(4), pages[k]);
                int bytes = pages[k] * 65536;
                for (int i = 0; i < bytes; i += 4096) {
                    Due.same("byte " + i, x.memory(i), 0);
                }
                Due.thrown("memory(" + bytes + ")", IllegalArgumentException.class, () -> x.memory(bytes));
            }
        }
    }

    private static void globals() {
        for (int n = 0; n <= 20; n++) {
            Build build = new Build();
            for (int g = 0; g < n; g++) {
                build.global((g % 2 == 0 ? "7F" : "7E") + Build.number(g / 2 % 2) + (g % 2 == 0 ? "41" : "42")
                    + Build.signed((g % 3 == 0 ? -1L : 1L) * g * (g % 2 == 0 ? 1L << 20 : 1L << 50)) + "0B");
            }
            for (WaferRunner x : Past.allWith(build.bytes())) {
                int all = n;
                Due.same("globals", x.count(3), n);
                for (int g = 0; g < n; g++) {
                    Due.same("global " + g + " of " + n, x.global(g),
                        (g % 3 == 0 ? -1L : 1L) * g * (g % 2 == 0 ? 1L << 20 : 1L << 50));
                }
                Due.thrown("global(" + n + ")", IllegalArgumentException.class, () -> x.global(all));
            }
        }
    }

    /** "i32 and i64 are whole numbers of 32 and 64 bits, with sign, that wrap": wherever a value can be. */
    private static void values() {
        long[] numbers = {0, 1, -1, 127, 128, 255, 32767, 65536, (1L << 31) - 1, 1L << 31, (1L << 32) - 1, 1L << 32,
            (1L << 32) + 1, -(1L << 31), -(1L << 31) - 1, (1L << 62) - 1, Long.MAX_VALUE, Long.MIN_VALUE};
        for (boolean isLong : new boolean[] {false, true}) {
            String t = isLong ? "7E" : "7F";
            String constant = isLong ? "42" : "41";
            String type = "60 01" + t + "01" + t;
            String[] codes = {
                "00 20 00 0B", "01 01" + t + "20 00 21 01 20 01 0B", "01 01" + t + "20 00 22 01 1A 20 01 0B",
                "00 20 00 24 00 23 00 0B", "00 20 00" + constant + "00 41 01 1B 0B",
                "00" + constant + "00 20 00 41 00 1B 0B", "00 02" + t + "20 00 0B 0B", "00 03" + t + "20 00 0C 01 0B 0B",
                "00 41 01 04" + t + "20 00 05" + constant + "01 0B 0B", "00 20 00 10 01 0B", "00 20 00 0F 0B",
                "00 41 10 20 00" + (isLong ? "37" : "36") + "00 00 41 10" + (isLong ? "29" : "28") + "00 00 0B",
                "00 20 00" + constant + "01" + (isLong ? "7C" : "6A") + constant + "7F" + (isLong ? "7C" : "6A") + "0B"
            };
            for (String code : codes) {
                byte[] module = new Build().type(type).function(0, code).function(0, "00 20 00 0B").memory("00 01")
                    .global(t + "01" + constant + "00 0B").bytes();
                for (WaferRunner x : Past.allWith(module)) {
                    for (long v : numbers) {
                        Use.answers(code, x, isLong ? v : (int) v, v);
                    }
                }
            }
            Use.runs("a local is 0 at first", "60 00 01" + t, "03 01 7F 01 7E 02" + t + "20 03 0B", 0);
            Use.runs("the greatest and 1", type, "00 20 00" + constant + "01" + (isLong ? "7C" : "6A") + "0B",
                isLong ? Long.MIN_VALUE : Integer.MIN_VALUE, isLong ? Long.MAX_VALUE : Integer.MAX_VALUE);
            Use.runs("the least less 1", type, "00 20 00" + constant + "01" + (isLong ? "7D" : "6B") + "0B",
                isLong ? Long.MAX_VALUE : Integer.MAX_VALUE, isLong ? Long.MIN_VALUE : Integer.MIN_VALUE);
        }
    }
}
