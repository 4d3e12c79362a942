import java.util.function.Supplier;

/** What a test finds against what is due: it prints each difference, and end() leaves with 1 if there was one. */
final class Due {
    private static int wrong = 0;

    private Due() {
    }

    static void same(String call, Object due, Supplier<Object> answer) {
        same(call, String.valueOf(due), answerOf(answer));
    }

    static void same(String call, String due, String answer) {
        if (!due.equals(answer)) {
            wrong++;
            System.out.println(call + " answered " + answer + ", due is " + due);
        }
    }

    /** The answer as a text; the exact class of an exception, so that none of the machine's own counts as due. */
    static String answerOf(Supplier<Object> answer) {
        try {
            return String.valueOf(answer.get());
        } catch (RuntimeException e) {
            return "throws." + e.getClass().getSimpleName();
        }
    }

    static void end() {
        if (wrong != 0) {
            System.out.println(wrong + " answers are not as due");
            System.exit(1);
        }
    }
}
