import java.util.concurrent.Callable;

/** Counts answers that are not as due, and tells of each. */
final class Check {
    private int asked = 0;
    private int wrong = 0;
    private String title = "";

    void title(String newTitle) {
        title = newTitle;
    }

    void is(Object due, Callable<?> call) {
        tell(due, answerOf(call));
    }

    void argument(Callable<?> call) {
        tell(IllegalArgumentException.class, answerOf(call));
    }

    void state(Callable<?> call) {
        tell(IllegalStateException.class, answerOf(call));
    }

    void index(Callable<?> call) {
        tell(IndexOutOfBoundsException.class, answerOf(call));
    }

    void tell(Object due, Object got) {
        asked++;
        if (!due.equals(got)) {
            wrong++;
            System.out.println(title + ", line " + linesOfCall() + ": answered " + got + ", due is " + due);
        }
    }

    /** What a call answers, or the class of what it throws. */
    static Object answerOf(Callable<?> call) {
        try {
            return call.call();
        } catch (Exception e) {
            return e.getClass();
        }
    }

    /** The line of the test, and those that lead to it. */
    private static String linesOfCall() {
        StringBuilder lines = new StringBuilder();
        for (StackTraceElement at : new Throwable().getStackTrace()) {
            if (!at.getClassName().equals("Check") && !at.getMethodName().equals("main")) {
                lines.append(lines.length() == 0 ? "" : " < ").append(at.getLineNumber());
            }
        }
        return lines.toString();
    }

    void end() {
        System.out.println(asked + " answers looked at, " + wrong + " not as due");
        if (wrong != 0 || asked == 0) {
            System.exit(1);
        }
    }
}
