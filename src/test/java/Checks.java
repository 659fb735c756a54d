/** Counts what holds and what does not, and tells the latter. */
final class Checks {
    static int passed = 0;
    static int failed = 0;

    private Checks() {
    }

    static void that(String what, boolean is) {
        if (is) {
            passed++;
        } else {
            failed++;
            System.out.println("FAILED " + what);
        }
    }

    static void same(String what, Object got, Object due) {
        that(what + ": answered " + got + ", due is " + due, due == null ? got == null : due.equals(got));
    }

    /** One call, which may throw. */
    interface Call {
        Object run();
    }

    static Object answer(Call call) {
        try {
            return call.run();
        } catch (RuntimeException e) {
            return "throws." + e.getClass().getSimpleName();
        }
    }

    static void refused(String what, String exception, Call call) {
        same(what, answer(call), "throws." + exception);
    }
}
