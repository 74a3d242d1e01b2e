/** Promise 1: a new object. */
public final class NewObjectTest {
    public static void main(String[] args) {
        WaferRunner x = new WaferRunner();
        int[] due = {0, 0, -1, -1, -1, 0, 0};
        for (int what = 0; what < due.length; what++) {
            Due.same("count(" + what + ") of a new object", x.count(what), due[what]);
        }
        Due.same("find of a new object", x.find(), -1);
        Due.thrown("call(0)", IllegalStateException.class, () -> x.call(0));
        Due.thrown("call(-1)", IllegalStateException.class, () -> x.call(-1));
        Due.thrown("global(0)", IllegalStateException.class, () -> x.global(0));
        Due.thrown("global(-1)", IllegalStateException.class, () -> x.global(-1));
        Due.thrown("memory(0)", IllegalStateException.class, () -> x.memory(0));
        Due.thrown("memory(-1)", IllegalStateException.class, () -> x.memory(-1));
        Due.thrown("module()", UnsupportedOperationException.class, () -> x.module());
        Due.same("the reason of no bytes", x.count(1), 1);

        WaferRunner used = Use.with(Build.one(Build.NONE_TO_NONE, "00 0B"));
        Due.same("functions of the other object", used.count(2), 1);
        Due.same("functions of the first object", x.count(2), -1);
        Due.same("functions of a third object", new WaferRunner().count(2), -1);
        Due.finish();
    }
}
