/** What an object tells of itself when it is only looked at: its counts, its globals, and bytes of its memory. */
final class State {
    static final int COUNTS = 7;
    private static final int PAGE = 65536;
    private static final int[] PLACES = {0, 1, 255, PAGE - 4, PAGE - 1, PAGE, 2 * PAGE - 1};

    private final long[] counts = new long[COUNTS];
    private final long[] globals;
    private final long[] bytes;

    State(WaferRunner x) {
        for (int what = 0; what < COUNTS; what++) {
            counts[what] = x.count(what);
        }
        globals = new long[(int) Math.max(0, counts[3])];
        for (int g = 0; g < globals.length; g++) {
            globals[g] = x.global(g);
        }
        bytes = new long[PLACES.length];
        for (int k = 0; k < PLACES.length; k++) {
            bytes[k] = PLACES[k] < counts[4] * PAGE ? x.memory(PLACES[k]) : -1;
        }
    }

    /** All is as it was, but for these counts. */
    void stays(String what, WaferRunner x, int... butFor) {
        State now = new State(x);
        for (int k = 0; k < COUNTS; k++) {
            if (!isAmong(k, butFor)) {
                Due.same(what + " leaves count(" + k + ")", now.counts[k], counts[k]);
            }
        }
        same(what + " leaves globals", now.globals, globals);
        same(what + " leaves bytes of the memory", now.bytes, bytes);
    }

    void countStays(String what, WaferRunner x, int... these) {
        for (int k : these) {
            Due.same(what + " leaves count(" + k + ")", x.count(k), counts[k]);
        }
    }

    /** A memory that begins is 0 in all its bytes. */
    static void beginsWithZeros(String what, WaferRunner x) {
        for (int place : PLACES) {
            if (place < x.count(4) * PAGE) {
                Due.same(what + ": memory(" + place + ")", x.memory(place), 0);
            }
        }
    }

    private static boolean isAmong(int k, int[] row) {
        for (int one : row) {
            if (one == k) {
                return true;
            }
        }
        return false;
    }

    private static void same(String what, long[] now, long[] before) {
        Due.same(what + ", how many", now.length, before.length);
        for (int k = 0; k < before.length && k < now.length; k++) {
            Due.same(what + ", no. " + k, now[k], before[k]);
        }
    }
}
