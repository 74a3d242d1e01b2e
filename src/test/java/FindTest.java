import java.nio.charset.StandardCharsets;

/** Promise 5: find. */
public final class FindTest {
    public static void main(String[] args) {
        String thirty = "abcdefghijklmnopqrstuvwxyz0123";
        WaferRunner x = Use.with(new Build().type(Build.NONE_TO_NONE).function(0, "00 0B").function(0, "00 0B")
            .function(0, "00 0B").memory("00 01").global("7F 00 41 00 0B").global("7F 00 41 00 0B")
            .export("m", 2, 0).export("g", 3, 1).export("one", 0, 1).export("on", 0, 2).export("", 0, 2)
            .export(thirty, 0, 1).export("\u0000", 0, 0).export("again", 0, 1));
        Due.same("one", Use.find(x, "one"), 1);
        Due.same("the tape behind find", x.count(0), 0);
        Due.same("on", Use.find(x, "on"), 2);
        Due.same("o", Use.find(x, "o"), -1);
        Due.same("ones", Use.find(x, "ones"), -1);
        Due.same("One", Use.find(x, "One"), -1);
        Due.same("again", Use.find(x, "again"), 1);
        Due.same("a memory", Use.find(x, "m"), -1);
        Due.same("a global", Use.find(x, "g"), -1);
        Due.same("the empty name", Use.find(x, ""), 2);
        Due.same("a zero", Use.find(x, "\u0000"), 0);
        Due.same("two zeros", Use.find(x, "\u0000\u0000"), -1);
        Due.same("thirty bytes", Use.find(x, thirty), 1);
        Due.same("thirty-one bytes", Use.find(x, thirty + "4"), -1);
        Due.same("a full tape", Use.find(x, "a".repeat(2000)), -1);
        Due.same("the tape behind find", x.count(0), 0);
        Due.same("the empty name again", x.find(), 2);
        Due.same("find changes no reason", x.count(1), 0);

        WaferRunner none = new WaferRunner();
        none.feed(1, 2, 3, 4, 5);
        Due.same("find without a module", none.find(), -1);
        Due.same("the tape is empty then, too", none.count(0), 0);

        WaferRunner bare = Use.with(Build.one(Build.NONE_TO_NONE, "00 0B"));
        Due.same("the empty name without exports", bare.find(), -1);
        WaferRunner named = Use.with(new Build().memory("00 01").export("", 2, 0));
        Due.same("the empty name of a memory", named.find(), -1);
        lengths();
        findLeavesAllButTheTape();
        Due.finish();
    }

    /** A name of each length from the shortest to the longest, and tapes that have a byte more or less. */
    private static void lengths() {
        for (int length = 0; length <= 30; length++) {
            String name = "z".repeat(length);
            byte[] module = new Build().type(Build.NONE_TO_NONE).function(0, "00 0B").function(0, "00 0B")
                .export(name, 0, 1).bytes();
            for (WaferRunner x : Past.allWith(module)) {
                Due.same("a name of " + length, Use.find(x, name), 1);
                Due.same("a byte more than " + length, Use.find(x, name + "z"), -1);
                Due.same("no bytes", Use.find(x, ""), length == 0 ? 1 : -1);
                if (length > 0) {
                    Due.same("a byte less than " + length, Use.find(x, name.substring(1)), -1);
                    Due.same("another first byte", Use.find(x, "y" + name.substring(1)), -1);
                    Due.same("another last byte", Use.find(x, name.substring(1) + "y"), -1);
                }
            }
        }
    }

    private static void findLeavesAllButTheTape() {
        for (WaferRunner x : Past.all()) {
            boolean isNew = x.count(2) < 0;
            for (String name : new String[] {"next", "three", "g", "", "nex", "nextt", "z".repeat(200)}) {
                Use.tape(x, name.getBytes(StandardCharsets.ISO_8859_1));
                State before = new State(x);
                int due = isNew ? -1 : name.equals("next") ? 0 : name.equals("three") ? 1 : -1;
                Due.same("find " + name, x.find(), due);
                Due.same("the tape behind find", x.count(0), 0);
                before.stays("find", x, 0);
            }
            if (!isNew) {
                Past.goesOn("behind find", x);
            }
        }
    }
}
