/** Counts what is as due, prints what is not. A test's main ends with end(). */
final class Check {
    private static int right = 0;
    private static int wrong = 0;

    private Check() {
    }

    static void same(String what, long got, long due) {
        tell(got == due, what + " answered " + got + ", due is " + due);
    }

    static void same(String what, double got, double due) {
        tell(got == due, what + " answered " + got + ", due is " + due);
    }

    static void is(String what, boolean got) {
        tell(got, what + " does not hold");
    }

    static void refuses(String what, Class<? extends RuntimeException> due, Runnable call) {
        Class<?> got = null;
        try {
            call.run();
        } catch (RuntimeException e) {
            got = e.getClass();
        }
        tell(got == due, what + " threw " + (got == null ? "nothing" : got.getSimpleName()) + ", due is " + due.getSimpleName());
    }

    static void end() {
        System.out.println(right + " checks as due, " + wrong + " not");
        if (wrong != 0 || right == 0) {
            System.exit(1);
        }
    }

    private static void tell(boolean good, String fault) {
        if (good) {
            right++;
        } else {
            wrong++;
            System.out.println("  " + fault);
        }
    }
}
