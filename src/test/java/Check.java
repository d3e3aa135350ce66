import java.util.Objects;

/** Compares answers with those that are due, and ends a test with exit code 1 if one was wrong. */
final class Check {
    private static int wrong = 0;

    private Check() { }

    static void same(String what, Object got, Object due) {
        if (!Objects.equals(got, due)) {
            wrong++;
            System.out.println(what + ": answered " + got + ", due is " + due);
        }
    }

    static void yes(String what, boolean got) {
        same(what, got, true);
    }

    static void no(String what, boolean got) {
        same(what, got, false);
    }

    static void fails(String what, Class<? extends RuntimeException> due, Runnable call) {
        try {
            call.run();
            same(what, "nothing thrown", due.getSimpleName());
        } catch (RuntimeException e) {
            same(what, e.getClass().getSimpleName(), due.getSimpleName());
        }
    }

    static void end() {
        if (wrong != 0) {
            System.out.println(wrong + " answers are not as due");
            System.exit(1);
        }
    }
}
