import java.util.function.Supplier;

/** What a test finds against what is due: it prints each difference, and end() leaves with 1 if there was one. */
final class Due {
    private static int wrong = 0;

    private Due() {
    }

    static void same(String call, Object due, Supplier<Object> answer) {
        String want = String.valueOf(due);
        String got = answerOf(answer);
        if (!want.equals(got)) {
            wrong++;
            System.out.println(call + " answered " + got + ", due is " + want);
        }
    }

    static void noIndex(String call, Supplier<Object> answer) {
        same(call, "throws.IndexOutOfBoundsException", answer);
    }

    static void noArgument(String call, Supplier<Object> answer) {
        same(call, "throws.IllegalArgumentException", answer);
    }

    /** The answer as a text; the exact class of an exception, so that none of the machine's own counts as due. */
    static String answerOf(Supplier<Object> answer) {
        try {
            return String.valueOf(answer.get());
        } catch (RuntimeException e) {
            return "throws." + e.getClass().getSimpleName();
        }
    }

    static void end() {
        if (wrong != 0) {
            System.out.println(wrong + " answers are not as due");
            System.exit(1);
        }
    }
}
