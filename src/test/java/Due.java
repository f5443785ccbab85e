/** Counts and prints the answers that are not as due. */
final class Due {
    interface Call {
        Object run();
    }

    private static int wrong = 0;

    private Due() {
    }

    static void is(String call, Object got, Object want) {
        if (!got.equals(want)) {
            wrong++;
            System.out.println(call + " answered " + got + ", due is " + want);
        }
    }

    static void throwing(String call, Class<? extends RuntimeException> want, Call run) {
        is(call, answer(run), want.getSimpleName());
    }

    /** What a call answers, or the name of the exception that it throws. */
    static Object answer(Call run) {
        try {
            return run.run();
        } catch (RuntimeException e) {
            return e.getClass().getSimpleName();
        }
    }

    static int wrong() {
        return wrong;
    }

    static void end() {
        if (wrong != 0) {
            System.out.println(wrong + " answers are not as due");
            System.exit(1);
        }
    }
}
