/** Counts the answers that are not as due, and ends a test with them. */
final class Due {
    private static int seen = 0;
    private static int wrong = 0;

    private Due() {
    }

    static void same(String what, long got, long want) {
        seen++;
        if (got != want) {
            wrong++;
            System.out.println(what + " answered " + got + ", due is " + want);
        }
    }

    static void isTrue(String what, boolean holds) {
        seen++;
        if (!holds) {
            wrong++;
            System.out.println("not so: " + what);
        }
    }

    /** The very class is due, not one below it. */
    static void thrown(String what, Class<? extends RuntimeException> want, Runnable call) {
        seen++;
        String got = "nothing";
        try {
            call.run();
        } catch (RuntimeException e) {
            got = e.getClass().getSimpleName();
        }
        if (!got.equals(want.getSimpleName())) {
            wrong++;
            System.out.println(what + " threw " + got + ", due is " + want.getSimpleName());
        }
    }

    static void finish() {
        System.out.println(seen + " answers, " + wrong + " not as due");
        if (wrong != 0 || seen == 0) {
            System.exit(1);
        }
    }
}
