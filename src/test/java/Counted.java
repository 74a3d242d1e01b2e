/** An object that counts its calls, for tests that come to the 512th, which is the last that is promised. */
final class Counted {
    static final int MOST = 512;

    private final WaferRunner x = new WaferRunner();
    private int calls;

    int calls() {
        return calls;
    }

    private WaferRunner next() {
        calls++;
        Due.isTrue("call " + calls + " is one that is promised", calls <= MOST);
        return x;
    }

    int feed(int a, int b, int c, int d, int e) {
        return next().feed(a, b, c, d, e);
    }

    int end(int n) {
        return next().end(n);
    }

    int module() {
        return next().module();
    }

    int find() {
        return next().find();
    }

    int argument(long v) {
        return next().argument(v);
    }

    long call(int f) {
        return next().call(f);
    }

    long global(int g) {
        return next().global(g);
    }

    int memory(int i) {
        return next().memory(i);
    }

    int count(int what) {
        return next().count(what);
    }

    /** Puts the bytes behind what is on the tape, and cuts off what is too much. */
    void tape(byte[] bytes) {
        int before = count(0);
        for (int at = 0; at < bytes.length; at += 20) {
            int[] five = new int[5];
            for (int k = 0; k < 20; k++) {
                five[k / 4] = five[k / 4] << 8 | (at + k < bytes.length ? bytes[at + k] & 255 : 0);
            }
            feed(five[0], five[1], five[2], five[3], five[4]);
        }
        end(before + bytes.length);
    }
}
