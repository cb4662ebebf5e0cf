import java.util.NoSuchElementException;

/** Counts the answers that are not as due, and ends a test with exit code 1 if there was one. */
final class Check {
    private static int wrong = 0;
    private static int done = 0;
    private static String sentence = "";

    private Check() {
    }

    /** Names the sentence of the document that the answers from now on are held against. */
    static void about(String words) {
        sentence = words;
    }

    static void same(String call, long due, long got) {
        done++;
        if (got != due) {
            tell(call, String.valueOf(due), String.valueOf(got));
        }
    }

    static void yes(String call, boolean got) {
        done++;
        if (!got) {
            tell(call, "true", "false");
        }
    }

    static void no(String call, boolean got) {
        done++;
        if (got) {
            tell(call, "false", "true");
        }
    }

    static void sameText(String call, String due, String got) {
        done++;
        if (!got.equals(due)) {
            tell(call, due, got);
        }
    }

    static void fails(String call, Class<? extends RuntimeException> due, Runnable runs) {
        done++;
        String got = "no exception";
        try {
            runs.run();
        } catch (RuntimeException e) {
            got = e.getClass().getName();
        }
        if (!got.equals(due.getName())) {
            tell(call, due.getName(), got);
        }
    }

    /** A kept note: file, sort, parent, name, mark, reasons. */
    static void note(NotedVolume v, int serial, int... due) {
        for (int what = 0; what < due.length; what++) {
            same("note(" + serial + ", " + what + ")", due[what], v.note(serial, what));
        }
    }

    /** The numbers of a subscriber's latest page. */
    static void page(NotedVolume v, int s, int... due) {
        for (int k = 0; k < due.length; k++) {
            same("shown(" + s + ", " + k + ")", due[k], v.shown(s, k));
        }
    }

    /** A file in a follower's copy: sort, parent, name, mark. */
    static void copy(NotedVolume v, int s, int file, int... due) {
        for (int what = 0; what < due.length; what++) {
            same("copied(" + s + ", " + file + ", " + what + ")", due[what], v.copied(s, file, what));
        }
    }

    static void noCopy(NotedVolume v, int s, int file) {
        fails("copied(" + s + ", " + file + ", 0)", NoSuchElementException.class, () -> v.copied(s, file, 0));
    }

    static void end(String test) {
        System.out.println(test + ": " + done + " answers looked at, " + wrong + " wrong");
        System.exit(wrong == 0 ? 0 : 1);
    }

    private static void tell(String call, String due, String got) {
        wrong++;
        StackTraceElement place = null;
        for (StackTraceElement frame : Thread.currentThread().getStackTrace()) {
            if (place == null && !frame.getClassName().equals("Check")
                    && !frame.getClassName().equals("java.lang.Thread")) {
                place = frame;
            }
        }
        System.out.println(place + ": " + call + " answered " + got + ", due is " + due
                + (sentence.isEmpty() ? "" : " [" + sentence + "]"));
    }
}
