/** Counts what is not as due, prints it, and ends a test with exit code 1 if there was any. */
final class Check {
    interface Call {
        long answer();
    }

    private static int checks = 0;
    private static int wrong = 0;

    private Check() {
    }

    static void due(String what, long got, long want) {
        checks++;
        if (got != want) {
            wrong++;
            System.out.println(what + " answered " + got + ", due is " + want);
        }
    }

    static void due(String what, boolean got, boolean want) {
        due(what, got ? 1 : 0, want ? 1 : 0);
    }

    static void illegal(String what, Call call) {
        dueThrow(what, call, IllegalArgumentException.class);
    }

    static void badState(String what, Call call) {
        dueThrow(what, call, IllegalStateException.class);
    }

    static void dueThrow(String what, Call call, Class<? extends RuntimeException> kind) {
        String got;
        try {
            got = "answered " + call.answer();
        } catch (RuntimeException thrown) {
            got = thrown.getClass() == kind && isFromOwnLines(thrown) ? null : "threw " + thrown;
        }
        checks++;
        if (got != null) {
            wrong++;
            System.out.println(what + " " + got + ", due is a " + kind.getSimpleName());
        }
    }

    /** What the machine or the library throws comes from no throw of the class itself. */
    static boolean isFromOwnLines(RuntimeException thrown) {
        StackTraceElement[] trace = thrown.getStackTrace();
        return trace.length > 0 && trace[0].getClassName().startsWith("MarginCourt");
    }

    static void end() {
        System.out.println(checks + " checks, " + wrong + " wrong");
        if (wrong != 0 || checks == 0) {
            System.exit(1);
        }
    }
}
