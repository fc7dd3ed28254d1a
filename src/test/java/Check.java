/** Counts the answers that are not as due; a test ends with exit code 1 if there was one. */
final class Check {
    interface Call {
        Object run();
    }

    private static int wrong = 0;

    private Check() {
    }

    static void same(String call, Object got, Object due) {
        if (!got.equals(due)) {
            wrong++;
            System.out.println(call + " answered " + got + ", due is " + due);
        }
    }

    /** The call must throw this very class: a class below it is thrown by the machine, not by us. */
    static void fails(String call, Class<? extends RuntimeException> due, Call run) {
        same(call, answer(run), "throws." + due.getSimpleName());
    }

    /** What the call answers, or the name of what it throws behind "throws.". */
    static Object answer(Call run) {
        try {
            return run.run();
        } catch (RuntimeException e) {
            return "throws." + e.getClass().getSimpleName();
        }
    }

    static void end(String test) {
        System.out.println(test + ": " + (wrong == 0 ? "all answers are as due" : wrong + " answers are not as due"));
        if (wrong > 0) {
            System.exit(1);
        }
    }
}
