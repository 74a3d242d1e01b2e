/**
 * VALID: "as 1.0 tells (with types of what can't be reached)": every short row of instructions, in blocks of each type,
 * where it can be reached and where it can't, against what a Tree says of it.
 */
public final class DeadCodeTest {
    private static final String[] TYPES = {"40", "7F", "7E"};
    /** Those that meet most often where types are not known. */
    private static final String[] FEW = {"1A", "1B", "41 00", "42 00", "45", "50", "0D 00", "22 01"};
    private static final String[] MANY = {"1A", "1B", "41 00", "42 00", "45", "50", "0D 00", "22 01", "6A", "AC", "A7",
        "21 00", "24 00", "0C 00", "0C 01", "0D 01", "0E 01 00 01", "0E 00 00", "0F", "10 01", "02 7E 00 0B",
        "03 7F 0C 00 0B", "04 40 0B", "04 7F 00 05 00 0B", "29 03 00", "37 00 00", "40 00"};
    /** A module takes ten calls at most. */
    private static final int MODULES_OF_AN_OBJECT = 50;

    private WaferRunner x = new WaferRunner();
    private int modules;
    private final int[] verdicts = new int[3];

    public static void main(String[] args) {
        DeadCodeTest test = new DeadCodeTest();
        for (String before : new String[] {"", "00", "41 07", "00 42 07", "0F", "41 07 0C 01"}) {
            for (String type : TYPES) {
                test.rows(type, before, MANY, 2);
                test.rows(type, before, FEW, 4);
            }
        }
        Due.same("rows that are not read", test.verdicts[1], 0);
        Due.isTrue("many are valid", test.verdicts[0] > 9000);
        Due.isTrue("many are not", test.verdicts[2] > 9000);
        knownAgain();
        Due.finish();
    }

    /** All rows of at most so many of these. */
    private void rows(String type, String row, String[] instructions, int more) {
        isAsDue(type, row);
        if (more > 0) {
            for (String one : instructions) {
                rows(type, row + one, instructions, more - 1);
            }
        }
    }

    private static byte[] module(String type, String row) {
        return new Build().type(Build.I32_TO_I32).type(Build.I64_TO_I32)
            .function(0, "01 01 7E 02" + type + row + "0B" + (type.equals("40") ? "" : "1A") + "41 00 0B")
            .function(1, "00 41 00 0B").memory("00 01").global("7F 01 41 00 0B").bytes();
    }

    private void isAsDue(String type, String row) {
        byte[] bytes = module(type, row);
        int due = 0;
        try {
            new Tree(bytes);
        } catch (Tree.Refused e) {
            due = e.reason;
        }
        verdicts[due]++;
        modules++;
        if (modules % MODULES_OF_AN_OBJECT == 0) {
            x = new WaferRunner();
        }
        Use.feed(x, bytes);
        int reason;
        try {
            x.module();
            reason = 0;
        } catch (UnsupportedOperationException e) {
            reason = x.count(1);
        }
        Due.same("the reason of a block " + type + " " + row, reason, due);
    }

    /** What select takes is of one type, and so is what it gives, once one of them is known. */
    private static void knownAgain() {
        String[] known = {"41 00", "42 00"};
        String[] takers = {"45", "50"};
        for (int k = 0; k < 2; k++) {
            for (int t = 0; t < 2; t++) {
                int reason = k == t ? 0 : 2;
                Use.read("of two, the upper one is known", module("40", "00" + known[k] + "41 00 1B" + takers[t] + "1A"),
                    reason);
                Use.read("of two, the lower one may be any", module("40", "00 1B" + known[k] + "41 00 1B" + takers[t]
                    + "1A"), reason);
                Use.read("both are known", module("40", "00" + known[k] + known[t] + "41 00 1B 1A"), reason);
            }
            Use.read("of two, none is known", module("40", "00 1B 41 00 1B" + takers[k] + "1A"), 0);
            Use.read("the condition is known", module("40", "00 1B" + known[k] + "1B 1A"), k == 0 ? 0 : 2);
        }
    }
}
