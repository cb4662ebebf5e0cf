/** Counts the answers that are not as due, and ends a test with exit code 1 if there was one. */
final class Check {
    private static int wrong = 0;
    private static int done = 0;

    private Check() {
    }

    static void same(String call, long due, long got) {
        done++;
        if (got != due) {
            tell(call, String.valueOf(due), String.valueOf(got));
        }
    }

    static void yes(String call, boolean got) {
        done++;
        if (!got) {
            tell(call, "true", "false");
        }
    }

    static void no(String call, boolean got) {
        done++;
        if (got) {
            tell(call, "false", "true");
        }
    }

    static void fails(String call, Class<? extends RuntimeException> due, Runnable runs) {
        done++;
        String got = "no exception";
        try {
            runs.run();
        } catch (RuntimeException e) {
            got = e.getClass().getName();
        }
        if (!got.equals(due.getName())) {
            tell(call, due.getName(), got);
        }
    }

    static void end(String test) {
        System.out.println(test + ": " + done + " answers looked at, " + wrong + " wrong");
        System.exit(wrong == 0 ? 0 : 1);
    }

    private static void tell(String call, String due, String got) {
        wrong++;
        StackTraceElement place = null;
        for (StackTraceElement frame : Thread.currentThread().getStackTrace()) {
            if (place == null && !frame.getClassName().equals("Check")
                    && !frame.getClassName().equals("java.lang.Thread")) {
                place = frame;
            }
        }
        System.out.println(place + ": " + call + " answered " + got + ", due is " + due);
    }
}
