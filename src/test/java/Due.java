import java.util.function.LongSupplier;

/** Counts the answers that are not the ones that are due. */
final class Due {
    static final long ARGUMENT = -1001;
    static final long STATE = -1002;

    private static int wrong;
    private static int checked;
    private static String heading = "";

    private Due() {
    }

    static void on(String text) {
        heading = text;
    }

    static void is(String call, long want, long got) {
        checked++;
        if (got != want) {
            wrong++;
            System.out.println(heading + ": " + call + " answered " + say(got) + ", due is " + say(want));
        }
    }

    static void yes(String call, boolean got) {
        is(call, 1, got ? 1 : 0);
    }

    static void no(String call, boolean got) {
        is(call, 0, got ? 1 : 0);
    }

    static void argument(String call, LongSupplier body) {
        is(call, ARGUMENT, answerOf(body));
    }

    static void state(String call, LongSupplier body) {
        is(call, STATE, answerOf(body));
    }

    static void argumentOf(String call, Runnable body) {
        argument(call, () -> run(body));
    }

    static void stateOf(String call, Runnable body) {
        state(call, () -> run(body));
    }

    static void end() {
        System.out.println(wrong == 0 ? checked + " answers are as due" : wrong + " answers are not as due");
        if (wrong != 0) {
            System.exit(1);
        }
    }

    private static long run(Runnable body) {
        body.run();
        return 0;
    }

    /** Only the two exceptions of the document, and no subclass of them, stand for an answer. */
    static long answerOf(LongSupplier body) {
        try {
            return body.getAsLong();
        } catch (RuntimeException e) {
            if (e.getClass() == IllegalArgumentException.class) {
                return ARGUMENT;
            }
            if (e.getClass() == IllegalStateException.class) {
                return STATE;
            }
            throw e;
        }
    }

    private static String say(long answer) {
        if (answer == ARGUMENT) {
            return "throws IllegalArgumentException";
        }
        return answer == STATE ? "throws IllegalStateException" : Long.toString(answer);
    }
}
