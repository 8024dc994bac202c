import java.util.Objects;

/** Counts the answers that are due and those that are not, and ends the program with 1 for the latter. */
final class Checks {
    interface Call {
        Object answer();
    }

    private String label = "";
    private int right = 0;
    private int wrong = 0;

    void promise(int number) {
        label = "promise " + number;
    }

    /** For a test whose own name tells its promise. */
    void test(String name) {
        label = name;
    }

    int answers() {
        return right + wrong;
    }

    void due(String what, Object want, Object got) {
        if (Objects.equals(want, got)) {
            right++;
        } else {
            wrong++;
            System.out.println(label + ": " + what + " answered " + got + ", due is " + want);
        }
    }

    void dueThrow(String what, Class<? extends Exception> want, Call call) {
        due(what, "throws." + want.getSimpleName(), answerOf(call));
    }

    /**
     * The exact class is told, so that a subclass thrown by the machine is no right answer; one that the
     * library throws, as a list for a wrong index, is none either.
     */
    static Object answerOf(Call call) {
        try {
            return call.answer();
        } catch (RuntimeException thrown) {
            return (isOfLibrary(thrown) ? "library throws." : "throws.") + thrown.getClass().getSimpleName();
        }
    }

    private static boolean isOfLibrary(RuntimeException thrown) {
        StackTraceElement[] trace = thrown.getStackTrace();
        return trace.length > 0 && trace[0].getModuleName() != null;
    }

    void end(String name) {
        System.out.println(name + ": " + right + " answers as due, " + wrong + " not");
        if (wrong != 0 || right == 0) {
            System.exit(1);
        }
    }
}
