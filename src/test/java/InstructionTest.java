import java.util.Map;
import java.util.TreeMap;

/** READ: "instructions 00 .. 05, 0B .. 10, ..": each byte there is, and what stands behind it. */
public final class InstructionTest {
    /** What stands behind each instruction of the document; else and end have tests of their own. */
    private static final Map<Integer, String> BEHIND = new TreeMap<>();

    static {
        all(0x00, 0x01, "");
        all(0x02, 0x04, "40 0B");
        all(0x0C, 0x0D, "00");
        all(0x0E, 0x0E, "01 00 00");
        all(0x0F, 0x0F, "");
        all(0x10, 0x10, "00");
        all(0x1A, 0x1B, "");
        all(0x20, 0x24, "00");
        all(0x28, 0x29, "00 00");
        all(0x2C, 0x2D, "00 00");
        all(0x36, 0x37, "00 00");
        all(0x3A, 0x3A, "00 00");
        all(0x3F, 0x40, "00");
        all(0x41, 0x42, "00");
        all(0x45, 0x5A, "");
        all(0x67, 0x8A, "");
        all(0xA7, 0xA7, "");
        all(0xAC, 0xAD, "");
    }

    private static void all(int first, int last, String behind) {
        for (int op = first; op <= last; op++) {
            BEHIND.put(op, behind);
        }
    }

    public static void main(String[] args) {
        for (int op = 0; op < 256; op++) {
            if (BEHIND.containsKey(op)) {
                isKnown(op, BEHIND.get(op));
            } else if (op != 0x05 && op != 0x0B) {
                isUnknown(op);
            }
        }
        memoryBytes();
        Due.finish();
    }

    /** The code has a local; what lies before can't be reached, and return leaves nothing behind. */
    private static void codeIs(String what, String body, int reason) {
        Use.read(what + ": " + body, new Build().type(Build.NONE_TO_NONE).function(0, "01 01 7F 00" + body)
            .memory("00 01").global("7F 01 41 00 0B").bytes(), reason);
    }

    private static void isKnown(int op, String behind) {
        String whole = String.format("%02X", op) + behind;
        codeIs("an instruction", whole + "0F 0B", 0);
        codeIs("an instruction twice", whole + "00" + whole + "0F 0B", 0);
        String packed = whole.replace(" ", "");
        for (int length = 2; length <= packed.length(); length += 2) {
            codeIs("an instruction without what is behind it", packed.substring(0, length), 1);
        }
    }

    private static void isUnknown(int op) {
        for (String behind : new String[] {"", "00", "00 00", "40 0B", "00 00 00 00", "00 00 00 00 00 00 00 00"}) {
            codeIs("not an instruction", String.format("%02X", op) + behind + "0F 0B", 1);
        }
    }

    private static void memoryBytes() {
        for (int b = 0; b < 256; b++) {
            String hex = String.format("%02X", b);
            codeIs("memory.size", "3F" + hex + "0F 0B", b == 0 ? 0 : 1);
            codeIs("memory.grow", "40" + hex + "0F 0B", b == 0 ? 0 : 1);
        }
        codeIs("memory.size with 0 in two bytes", "3F 80 00 0F 0B", 1);
        codeIs("memory.grow with 0 in two bytes", "40 80 00 0F 0B", 1);
    }
}
