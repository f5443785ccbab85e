/** Counts and prints the answers that are not as due. */
final class Due {
    interface Call {
        Object run();
    }

    private static int wrong = 0;
    private static String sentence = "";

    private Due() {
    }

    /** The sentence of the document that the next answers are due by: printed before the first that is wrong. */
    static void by(String words) {
        sentence = words;
    }

    static void is(String call, Object got, Object want) {
        if (!got.equals(want)) {
            wrong++;
            if (!sentence.isEmpty()) {
                System.out.println("not so: " + sentence);
                sentence = "";
            }
            System.out.println(call + " answered " + got + ", due is " + want);
        }
    }

    static void throwing(String call, Class<? extends RuntimeException> want, Call run) {
        is(call, answer(run), want.getSimpleName());
    }

    /** What a call answers, or the name of the exception that it throws. */
    static Object answer(Call run) {
        try {
            return run.run();
        } catch (RuntimeException e) {
            return e.getClass().getSimpleName();
        }
    }

    static int wrong() {
        return wrong;
    }

    static void end() {
        if (wrong != 0) {
            System.out.println(wrong + " answers are not as due");
            System.exit(1);
        }
    }
}
