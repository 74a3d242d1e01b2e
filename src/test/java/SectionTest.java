import java.util.Arrays;

/**
 * READ: "sections 0 (a NAME'S length, and then what there is), 1, 3, 5, 6, 7, 10 in rising order (0 anywhere), each
 * just its size", "else just in an if, once", and "end of all is the end of the code".
 */
public final class SectionTest {
    private static final int[] IDS = {1, 3, 5, 6, 7, 10};
    /** What is in each of them, in the same order. */
    private static final String[] CONTENTS = {
        "01 60 00 00", "01 00", "01 00 01", "01 7F 01 41 05 0B", "01 01 66 00 00", "01 04 01 01 7F 0B"
    };

    public static void main(String[] args) {
        Use.read("all sections", Build.hex(Build.HEAD + joined(0, IDS.length)), 0);
        prefixes();
        order();
        unknown();
        customAnywhere();
        customContents();
        sizes();
        codes();
        Due.finish();
    }

    private static String section(int k) {
        return Build.section(IDS[k], CONTENTS[k]);
    }

    /** The sections from one to before another. */
    private static String joined(int from, int to) {
        StringBuilder s = new StringBuilder();
        for (int k = from; k < to; k++) {
            s.append(section(k));
        }
        return s.toString();
    }

    /** A module that is cut off is none, but where no functions without codes are left. */
    private static void prefixes() {
        byte[] whole = Build.hex(Build.HEAD + joined(0, IDS.length));
        int head = Build.hex(Build.HEAD).length;
        int types = Build.hex(Build.HEAD + section(0)).length;
        for (int n = 0; n <= whole.length; n++) {
            boolean good = n == head || n == types || n == whole.length;
            Use.read(n + " bytes of " + whole.length, Arrays.copyOf(whole, n), good ? 0 : 1);
        }
        Use.read("a byte more", Arrays.copyOf(whole, whole.length + 1), 1);
    }

    /** With nothing in them all sections can stand alone, so each order of two can be asked for. */
    private static void order() {
        for (int first : IDS) {
            for (int second : IDS) {
                Use.read("section " + second + " behind " + first,
                    Build.hex(Build.HEAD + Build.section(first, "00") + Build.section(second, "00")),
                    first < second ? 0 : 1);
                Use.read("section " + second + " behind " + first + " and 0",
                    Build.hex(Build.HEAD + Build.section(first, "00") + "00 01 00" + Build.section(second, "00")),
                    first < second ? 0 : 1);
            }
        }
        for (int k = 0; k < IDS.length; k++) {
            Use.read("section " + IDS[k] + " again", Build.hex(Build.HEAD + joined(0, k + 1) + section(k)
                + joined(k + 1, IDS.length)), 1);
            Use.read("section " + IDS[k] + " at the end",
                Build.hex(Build.HEAD + joined(0, k) + joined(k + 1, IDS.length) + section(k)),
                k == IDS.length - 1 ? 0 : 1);
        }
    }

    private static void unknown() {
        for (int id = 1; id < 256; id++) {
            boolean known = Arrays.binarySearch(IDS, id) >= 0;
            Use.read("section " + id, Build.hex(Build.HEAD + String.format("%02X 01 00", id)), known ? 0 : 1);
            if (!known) {
                Use.read("section " + id + " behind all",
                    Build.hex(Build.HEAD + joined(0, IDS.length) + String.format("%02X 01 00", id)), 1);
                Use.read("section " + id + " in its place", Build.hex(Build.HEAD + joined(0, id == 2 ? 1 : 2)
                    + String.format("%02X 01 00", id) + joined(id == 2 ? 1 : 2, IDS.length)), 1);
            }
        }
    }

    private static void customAnywhere() {
        for (String custom : new String[] {"00 01 00", "00 04 02 FF 00 01", "00 01 00 00 02 01 41"}) {
            StringBuilder everywhere = new StringBuilder(Build.HEAD + custom);
            for (int k = 0; k < IDS.length; k++) {
                Use.read("section 0 before " + IDS[k],
                    Build.hex(Build.HEAD + joined(0, k) + custom + joined(k, IDS.length)), 0);
                everywhere.append(section(k)).append(custom);
            }
            Use.read("section 0 everywhere", Build.hex(everywhere.toString()), 0);
            Use.read("section 0 behind all", Build.hex(Build.HEAD + joined(0, IDS.length) + custom), 0);
        }
    }

    /** A name's length, and then what there is: the name must be there, and more may be. */
    private static void customContents() {
        for (int rest : new int[] {0, 1, 2, 29, 30, 31, 126, 127, 128, 200}) {
            for (int name = 0; name <= 260; name++) {
                if (name <= 2 || Math.abs(name - rest) <= 2 || name == 30 || name == 31 || name == 260) {
                    Use.read("a name of " + name + " in " + rest, Build.hex(Build.HEAD
                        + Build.section(0, Build.number(name) + Build.times(rest, "C0"))), name <= rest ? 0 : 1);
                }
            }
        }
        Use.read("no length of a name", Build.hex(Build.HEAD + "00 00"), 1);
        Use.read("no length of a name, and a section behind", Build.hex(Build.HEAD + "00 00 01 01 00"), 1);
    }

    private static void sizes() {
        for (int k = 0; k < IDS.length; k++) {
            int size = Build.hex(CONTENTS[k]).length;
            for (int wrong = 0; wrong <= size + 3; wrong++) {
                String changed = Build.HEAD + joined(0, k) + Build.number(IDS[k]) + Build.number(wrong) + CONTENTS[k]
                    + joined(k + 1, IDS.length);
                Use.read("section " + IDS[k] + " of " + size + " with size " + wrong, Build.hex(changed),
                    wrong == size ? 0 : 1);
            }
            // Bytes that belong to nothing do not make it larger.
            Use.read("section " + IDS[k] + " with a byte more", Build.hex(Build.HEAD + joined(0, k)
                + Build.section(IDS[k], CONTENTS[k] + "00") + joined(k + 1, IDS.length)), 1);
        }
    }

    private static void codes() {
        String before = Build.HEAD + Build.section(1, "01 60 00 00") + Build.section(3, "02 00 00");
        String first = "00 02 40 0B 0B";
        int size = Build.hex(first).length;
        for (int wrong = 0; wrong <= size + 4; wrong++) {
            Use.read("a code of " + size + " with size " + wrong, Build.hex(before + Build.section(10, "02"
                + Build.number(wrong) + first + "02 00 0B")), wrong == size ? 0 : 1);
            Use.read("the last code of " + size + " with size " + wrong, Build.hex(before + Build.section(10,
                "02 02 00 0B" + Build.number(wrong) + first)), wrong == size ? 0 : 1);
        }
        String[] wrong = {"", "00", "00 01", "00 02 40 0B", "00 02 40 0B 0B 01", "00 0B 0B", "00 0B 00",
            "00 41 00 04 40 05 0B", "00 41 00 04 40 0B 05 0B 0B", "00 0B 02 40 0B"};
        for (String code : wrong) {
            Use.read("a code " + code, new Build().type(Build.NONE_TO_NONE).function(0, code).bytes(), 1);
            Use.read("a code before another " + code,
                new Build().type(Build.NONE_TO_NONE).function(0, code).function(0, "00 0B").bytes(), 1);
        }
        elses();
    }

    /** "else just in an if, once": by what stands open when it comes. */
    private static void elses() {
        String[] good = {"41 00 04 40 05 0B", "41 00 04 40 02 40 0B 05 02 40 0B 0B",
            "41 00 04 40 05 41 00 04 40 05 0B 0B", "41 00 04 40 41 00 04 40 05 0B 05 0B",
            "02 40 03 40 41 00 04 40 05 0B 0B 0B", "41 00 04 40 05 0B 41 00 04 40 05 0B"};
        String[] bad = {"05", "05 0B", "02 40 05 0B", "03 40 05 0B", "41 00 04 40 0B 05", "41 00 04 40 05 05 0B",
            "41 00 04 40 02 40 05 0B 0B", "41 00 04 40 03 40 05 0B 0B", "41 00 04 40 05 02 40 05 0B 0B",
            "41 00 04 40 05 41 00 04 40 0B 05 0B", "41 00 04 40 05 41 00 04 40 05 0B 05 0B"};
        for (String body : good) {
            Use.read("else in " + body, Build.one(Build.NONE_TO_NONE, "00" + body + "0B"), 0);
        }
        for (String body : bad) {
            Use.read("else in " + body, Build.one(Build.NONE_TO_NONE, "00" + body + "0B"), 1);
        }
    }
}
