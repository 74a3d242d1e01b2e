import java.io.ByteArrayOutputStream;
import java.nio.charset.StandardCharsets;
import java.util.ArrayList;
import java.util.List;

/** Puts the bytes of a module together; texts are bytes in hex, with blanks as one likes. */
final class Build {
    static final String HEAD = "00 61 73 6D 01 00 00 00";
    static final String NONE_TO_NONE = "60 00 00";
    static final String NONE_TO_I32 = "60 00 01 7F";
    static final String NONE_TO_I64 = "60 00 01 7E";
    static final String I32_TO_NONE = "60 01 7F 00";
    static final String I32_TO_I32 = "60 01 7F 01 7F";
    static final String I64_TO_I64 = "60 01 7E 01 7E";
    static final String I64_TO_I32 = "60 01 7E 01 7F";
    static final String I32_TO_I64 = "60 01 7F 01 7E";
    static final String TWO_I32_TO_I32 = "60 02 7F 7F 01 7F";
    static final String TWO_I64_TO_I64 = "60 02 7E 7E 01 7E";
    static final String TWO_I64_TO_I32 = "60 02 7E 7E 01 7F";

    private final List<String> types = new ArrayList<>();
    private final List<String> functions = new ArrayList<>();
    private final List<String> memories = new ArrayList<>();
    private final List<String> globals = new ArrayList<>();
    private final List<String> exports = new ArrayList<>();
    private final List<String> codes = new ArrayList<>();
    private String tail = "";

    /** A module with one function and a page of memory; the code tells its locals and its end, too. */
    static byte[] one(String type, String code) {
        return new Build().type(type).function(0, code).memory("00 01").bytes();
    }

    Build type(String hex) {
        types.add(hex);
        return this;
    }

    Build function(long type, String code) {
        functions.add(number(type));
        codes.add(sized(code));
        return this;
    }

    Build memory(String limits) {
        memories.add(limits);
        return this;
    }

    Build global(String hex) {
        globals.add(hex);
        return this;
    }

    Build export(String name, int kind, int index) {
        exports.add(sized(text(name.getBytes(StandardCharsets.ISO_8859_1))) + number(kind) + number(index));
        return this;
    }

    /** A code without its function. */
    Build code(String code) {
        codes.add(sized(code));
        return this;
    }

    /** Bytes behind all sections. */
    Build tail(String hex) {
        tail += hex;
        return this;
    }

    byte[] bytes() {
        return hex(HEAD + row(1, types) + row(3, functions) + row(5, memories) + row(6, globals)
            + row(7, exports) + row(10, codes) + tail);
    }

    private static String row(int id, List<String> parts) {
        return parts.isEmpty() ? "" : section(id, number(parts.size()) + String.join(" ", parts));
    }

    static String section(int id, String content) {
        return " " + number(id) + sized(content);
    }

    /** The content with its size before it. */
    static String sized(String content) {
        return number(hex(content).length) + content + " ";
    }

    static String number(long n) {
        StringBuilder s = new StringBuilder();
        long rest = n;
        do {
            s.append(String.format("%02X ", rest & 127 | (rest > 127 ? 128 : 0)));
            rest >>>= 7;
        } while (rest != 0);
        return s.toString();
    }

    static String signed(long n) {
        StringBuilder s = new StringBuilder();
        long rest = n;
        while (rest < -64 || rest > 63) {
            s.append(String.format("%02X ", rest & 127 | 128));
            rest >>= 7;
        }
        return s.append(String.format("%02X ", rest & 127)).toString();
    }

    /** The number in so many bytes, the last with these bits above it. */
    static String padded(long n, int bytes, int bits) {
        StringBuilder s = new StringBuilder();
        for (int k = 0; k < bytes - 1; k++) {
            s.append(String.format("%02X ", n >> 7 * k & 127 | 128));
        }
        int shift = Math.min(63, 7 * (bytes - 1));
        return s.append(String.format("%02X ", n >> shift & 127 | bits)).toString();
    }

    static String padded(long n, int bytes) {
        return padded(n, bytes, 0);
    }

    static String times(int n, String part) {
        return (part + " ").repeat(n);
    }

    static byte[] hex(String text) {
        ByteArrayOutputStream out = new ByteArrayOutputStream();
        String packed = text.replace(" ", "");
        for (int k = 0; k < packed.length(); k += 2) {
            out.write(Integer.parseInt(packed.substring(k, k + 2), 16));
        }
        return out.toByteArray();
    }

    static String text(byte[] bytes) {
        StringBuilder s = new StringBuilder();
        for (byte b : bytes) {
            s.append(String.format("%02X ", b & 255));
        }
        return s.toString();
    }
}
