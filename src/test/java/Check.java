/** Compares answers with the ones that are due and tells how it went. */
final class Check {
    interface Call {
        long answer();
    }

    private static int done;
    private static int wrong;
    private static String about = "";

    private Check() {
    }

    /** What the answers looked at from now on belong to; it is told with each that is wrong. */
    static void about(String what) {
        about = what.isEmpty() ? "" : what + ": ";
    }

    static int done() {
        return done;
    }

    static void same(String call, long got, long due) {
        done++;
        if (got != due) {
            isWrong(call + " answered " + got + ", due is " + due);
        }
    }

    static void same(String call, double got, double due) {
        done++;
        if (got != due) {
            isWrong(call + " answered " + got + ", due is " + due);
        }
    }

    private static void isWrong(String text) {
        wrong++;
        System.out.println(about + text);
    }

    static void yes(String what, boolean holds) {
        same(what, holds ? 1 : 0, 1);
    }

    /** The digest tells of everything that an object holds, so that it shows whether the call changed anything. */
    static void refuses(String call, Class<? extends RuntimeException> due, ReefPilot on, Call made) {
        long before = on.digest();
        done++;
        String got;
        try {
            got = "answered " + made.answer();
        } catch (RuntimeException thrown) {
            got = thrown.getClass() == due ? "" : "threw " + thrown;
        }
        if (!got.isEmpty()) {
            isWrong(call + " " + got + ", due is " + due.getName());
        }
        same(call + ", the digest behind it", on.digest(), before);
    }

    static void end(String test) {
        System.out.println(test + ": " + done + " answers looked at, " + wrong + " wrong");
        if (wrong != 0 || done == 0) {
            System.exit(1);
        }
    }
}
