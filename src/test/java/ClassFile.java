import java.io.ByteArrayInputStream;
import java.io.DataInputStream;
import java.io.IOException;
import java.io.InputStream;
import java.util.Map;
import java.util.Set;
import java.util.TreeMap;
import java.util.TreeSet;

/** What the compiler wrote of a class: the members that it uses, and what each of its methods calls. */
final class ClassFile {
    private static final int INVOKE_FIRST = 0xB6;
    private static final int INVOKE_LAST = 0xB9;
    private static final int TABLE_SWITCH = 0xAA;
    private static final int LOOKUP_SWITCH = 0xAB;
    private static final int WIDE = 0xC4;
    private static final int IINC = 0x84;
    /** How many bytes stand behind each instruction of the JVM, from 0 on; of those above there is no fixed number. */
    private static final String BEHIND =
        "0000000000000000" + "1212211111000000" + "0000000000000000" + "0000001111100000"
        + "0000000000000000" + "0000000000000000" + "0000000000000000" + "0000000000000000"
        + "0000200000000000" + "0000000002222222" + "2222222221000000" + "0022222224421200"
        + "2200032244000000";

    private final int[] tags;
    private final int[] firsts;
    private final int[] seconds;
    private final String[] texts;
    /** Every member that the class uses, such as java/lang/Math.min(II)I. */
    final Set<String> used = new TreeSet<>();
    /** Of each method what it calls, both told in the same way. */
    final Map<String, Set<String>> calls = new TreeMap<>();

    ClassFile(Class<?> type) throws IOException {
        try (InputStream file = type.getResourceAsStream(type.getName() + ".class");
            DataInputStream in = new DataInputStream(file)) {
            in.skipBytes(8);
            int size = in.readUnsignedShort();
            tags = new int[size];
            firsts = new int[size];
            seconds = new int[size];
            texts = new String[size];
            readConstants(in, type.getName());
            for (int k = 1; k < size; k++) {
                if (tags[k] >= 9 && tags[k] <= 11) {
                    used.add(member(k));
                }
            }
            in.skipBytes(6);
            in.skipBytes(2 * in.readUnsignedShort());
            readMembers(in, null);
            readMembers(in, type.getName());
        }
    }

    private String member(int k) {
        int named = seconds[k];
        return texts[firsts[firsts[k]]] + "." + texts[firsts[named]] + texts[seconds[named]];
    }

    private void readConstants(DataInputStream in, String name) throws IOException {
        for (int k = 1; k < tags.length; k++) {
            tags[k] = in.readUnsignedByte();
            switch (tags[k]) {
                case 1:
                    texts[k] = in.readUTF();
                    break;
                case 3:
                case 4:
                    in.readInt();
                    break;
                case 5:
                case 6:
                    in.readLong();
                    k++;
                    break;
                case 7:
                case 8:
                    firsts[k] = in.readUnsignedShort();
                    break;
                case 9:
                case 10:
                case 11:
                case 12:
                    firsts[k] = in.readUnsignedShort();
                    seconds[k] = in.readUnsignedShort();
                    break;
                default:
                    throw new IOException("a lambda, a reference to a method or a joined text in " + name);
            }
        }
    }

    /** Fields if there is no name, else the methods of the class of that name. */
    private void readMembers(DataInputStream in, String name) throws IOException {
        for (int left = in.readUnsignedShort(); left > 0; left--) {
            in.readUnsignedShort();
            String member = texts[in.readUnsignedShort()] + texts[in.readUnsignedShort()];
            for (int more = in.readUnsignedShort(); more > 0; more--) {
                String attribute = texts[in.readUnsignedShort()];
                byte[] content = new byte[in.readInt()];
                in.readFully(content);
                if (name != null && attribute.equals("Code")) {
                    calls.put(name + "." + member, callsIn(content));
                }
            }
        }
    }

    private Set<String> callsIn(byte[] attribute) throws IOException {
        DataInputStream in = new DataInputStream(new ByteArrayInputStream(attribute));
        in.skipBytes(4);
        byte[] code = new byte[in.readInt()];
        in.readFully(code);
        Set<String> all = new TreeSet<>();
        for (int at = 0; at < code.length; at += lengthOf(code, at)) {
            int op = code[at] & 255;
            if (op >= INVOKE_FIRST && op <= INVOKE_LAST) {
                all.add(member((code[at + 1] & 255) << 8 | code[at + 2] & 255));
            }
        }
        return all;
    }

    private static int lengthOf(byte[] code, int at) {
        int op = code[at] & 255;
        int table = (at + 4) / 4 * 4;
        if (op == TABLE_SWITCH) {
            return table + 12 + 4 * (four(code, table + 8) - four(code, table + 4) + 1) - at;
        }
        if (op == LOOKUP_SWITCH) {
            return table + 8 + 8 * four(code, table + 4) - at;
        }
        if (op == WIDE) {
            return (code[at + 1] & 255) == IINC ? 6 : 4;
        }
        return 1 + BEHIND.charAt(op) - '0';
    }

    private static int four(byte[] code, int at) {
        return (code[at] & 255) << 24 | (code[at + 1] & 255) << 16 | (code[at + 2] & 255) << 8 | code[at + 3] & 255;
    }
}
