import java.util.LinkedHashMap;
import java.util.Map;
import java.util.function.Consumer;

/**
 * READ: "all of it is READ before anything is asked to be VALID": whatever is not valid, something that is not read
 * beside it, before or behind it, makes the reason 1.
 */
public final class ReadFirstTest {
    private static final Map<String, Consumer<Build>> NOT_READ = new LinkedHashMap<>();
    private static final Map<String, Consumer<Build>> NOT_VALID = new LinkedHashMap<>();

    static {
        NOT_READ.put("21 types", b -> {
            for (int k = 0; k < 21; k++) {
                b.type(Build.NONE_TO_NONE);
            }
        });
        NOT_READ.put("a type of 9 parameters", b -> b.type("60 09" + Build.times(9, "7F") + "00"));
        NOT_READ.put("a type of 2 results", b -> b.type("60 00 02 7F 7F"));
        NOT_READ.put("a parameter of f32", b -> b.type("60 01 7D 00"));
        NOT_READ.put("a type's index of 2^31", b -> b.function(1L << 31, "00 0B"));
        NOT_READ.put("a code too many", b -> b.code("00 0B"));
        NOT_READ.put("a memory with flag 2", b -> b.memory("02 01 02"));
        NOT_READ.put("pages of 2^32", b -> b.memory("00 80 80 80 80 10"));
        NOT_READ.put("a global with flag 2", b -> b.global("7F 02 41 00 0B"));
        NOT_READ.put("a global from another", b -> b.global("7F 00 23 00 0B"));
        NOT_READ.put("a global's constant too great", b -> b.global("7F 00 41 80 80 80 80 08 0B"));
        NOT_READ.put("a name of 31", b -> b.export("n".repeat(31), 0, 0));
        NOT_READ.put("an export of a table", b -> b.export("t", 1, 0));
        NOT_READ.put("61 locals", b -> b.function(0, "01 3D 7F 0B"));
        NOT_READ.put("an instruction that is none", b -> b.function(0, "00 06 0B"));
        NOT_READ.put("f32.const", b -> b.function(0, "00 43 00 00 00 00 1A 0B"));
        NOT_READ.put("a block of f64", b -> b.function(0, "00 02 7C 00 0B 1A 0B"));
        NOT_READ.put("101 blocks", b -> b.function(0, "00" + Build.times(101, "02 40") + Build.times(102, "0B")));
        NOT_READ.put("51 labels", b -> b.function(0, "00 41 00 0E 33" + Build.times(52, "00") + "0B"));
        NOT_READ.put("a label of 2^31", b -> b.function(0, "00 0C 80 80 80 80 08 0B"));
        NOT_READ.put("else alone", b -> b.function(0, "00 05 0B"));
        NOT_READ.put("else twice", b -> b.function(0, "00 41 00 04 40 05 05 0B 0B"));
        NOT_READ.put("memory.grow with 1", b -> b.function(0, "00 41 00 40 01 1A 0B"));
        NOT_READ.put("i64.const too long", b -> b.function(0, "00 42" + Build.times(10, "80") + "00 1A 0B"));
        NOT_READ.put("no end", b -> b.function(0, "00 01"));
        NOT_READ.put("an end more", b -> b.function(0, "00 0B 0B"));
        NOT_READ.put("a section 2 behind all", b -> b.tail("02 01 00"));
        NOT_READ.put("a section 11 behind all", b -> b.tail("0B 01 00"));
        NOT_READ.put("section 1 behind all", b -> b.tail("01 01 00"));
        NOT_READ.put("section 0 without a name", b -> b.tail("00 00"));
        NOT_READ.put("a byte behind all", b -> b.tail("00"));

        NOT_VALID.put("a type that is not there", b -> b.function(19, "00 0B"));
        NOT_VALID.put("3 pages", b -> b.memory("00 03"));
        NOT_VALID.put("a most below the first", b -> b.memory("01 02 01"));
        NOT_VALID.put("a most of 65537", b -> b.memory("01 00 81 80 04"));
        NOT_VALID.put("i32 from i64.const", b -> b.global("7F 00 42 00 0B"));
        NOT_VALID.put("a function that is not there", b -> b.export("v", 0, 30));
        NOT_VALID.put("a memory that is not there", b -> b.export("v", 2, 1));
        NOT_VALID.put("a global that is not there", b -> b.export("v", 3, 20));
        NOT_VALID.put("a name twice", b -> b.export("f", 0, 0));
        NOT_VALID.put("a value too many", b -> b.function(0, "00 41 00 0B"));
        NOT_VALID.put("a value too few", b -> b.function(0, "00 1A 0B"));
        NOT_VALID.put("a value of another type", b -> b.function(0, "00 42 00 45 1A 0B"));
        NOT_VALID.put("a label too far", b -> b.function(0, "00 0C 01 0B"));
        NOT_VALID.put("a label of 2^31 - 1", b -> b.function(0, "00 0C FF FF FF FF 07 0B"));
        NOT_VALID.put("a local that is not there", b -> b.function(0, "00 20 00 1A 0B"));
        NOT_VALID.put("a global that stays", b -> b.function(0, "00 41 00 24 00 0B"));
        NOT_VALID.put("a call of none", b -> b.function(0, "00 10 1E 0B"));
        NOT_VALID.put("a wide alignment", b -> b.function(0, "00 41 00 28 03 00 1A 0B"));
        NOT_VALID.put("an alignment of 2^31 - 1", b -> b.function(0, "00 41 00 28 FF FF FF FF 07 00 1A 0B"));
        NOT_VALID.put("an if without else that gives", b -> b.function(0, "00 41 00 04 7F 41 00 0B 1A 0B"));
    }

    public static void main(String[] args) {
        Use.read("neither", base().bytes(), 0);
        NOT_READ.forEach((what, fault) -> Use.read(what, with(fault), 1));
        NOT_VALID.forEach((what, fault) -> Use.read(what, with(fault), 2));
        NOT_READ.forEach((what, fault) -> NOT_VALID.forEach((other, another) -> {
            Use.read(what + ", then " + other, with(fault, another), 1);
            Use.read(other + ", then " + what, with(another, fault), 1);
        }));
        Due.finish();
    }

    private static Build base() {
        return new Build().type(Build.NONE_TO_NONE).function(0, "00 0B").global("7F 00 41 00 0B").export("f", 0, 0);
    }

    @SafeVarargs
    private static byte[] with(Consumer<Build>... faults) {
        Build build = base();
        for (Consumer<Build> fault : faults) {
            fault.accept(build);
        }
        return build.bytes();
    }
}
