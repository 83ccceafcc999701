/** Counts the checks that hold, and prints those that do not. */
final class Checks {
    /** A call of the class under test. */
    interface Call {
        long answer();
    }

    static final String ARGUMENT = "IllegalArgumentException";
    static final String STATE = "IllegalStateException";
    static final String INDEX = "IndexOutOfBoundsException";

    private int passed;
    private int failed;

    /** The answer of a call as a text: its number, or the name of the exception that it throws. */
    static String told(Call call) {
        try {
            return Long.toString(call.answer());
        } catch (RuntimeException e) {
            return e.getClass().getSimpleName();
        }
    }

    void same(String name, long due, long got) {
        same(name, Long.toString(due), Long.toString(got));
    }

    void same(String name, String due, String got) {
        if (due.equals(got)) {
            passed++;
        } else {
            failed++;
            System.out.println(name + ": due is " + due + ", answered " + got);
        }
    }

    void fails(String name, String exception, Call call) {
        same(name, exception, told(call));
    }

    int countFailed() {
        return failed;
    }

    String summary() {
        return passed + " passed, " + failed + " failed";
    }
}
