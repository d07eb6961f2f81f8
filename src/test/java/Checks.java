import java.util.NoSuchElementException;

/** What the tests share: checks of one call each, and the count of those that failed. */
final class Checks {
    static final Class<?> INDEX = IndexOutOfBoundsException.class;
    static final Class<?> ARGUMENT = IllegalArgumentException.class;
    static final Class<?> STATE = IllegalStateException.class;
    static final Class<?> NO_SUCH = NoSuchElementException.class;

    interface Call {
        Object make();
    }

    private static int passed = 0;
    private static int failed = 0;
    private static String part = "";

    private Checks() {
    }

    /** Names the promise that the next checks are about. */
    static void part(String name) {
        part = name;
    }

    /** Numbers are compared by value, so that an int and a long may stand for one another. */
    static void is(Object want, Call call) {
        note(want, answerOf(call));
    }

    static void fails(Class<?> want, Call call) {
        note(want, answerOf(call));
    }

    static void end() {
        System.out.println(passed + " checks passed, " + failed + " failed");
        if (failed > 0) {
            System.exit(1);
        }
    }

    /** What a call answers: a number as a Long, a Boolean, or the class of the exception. */
    static Object answerOf(Call call) {
        try {
            return plain(call.make());
        } catch (RuntimeException e) {
            return e.getClass();
        }
    }

    static void note(Object want, Object got) {
        if (plain(want).equals(got)) {
            passed++;
            return;
        }
        failed++;
        StackTraceElement[] stack = new Throwable().getStackTrace();
        System.out.println(part + ", " + stack[2].getFileName() + ":" + stack[2].getLineNumber()
                + ": answered " + got + ", due is " + plain(want));
    }

    private static Object plain(Object answer) {
        return answer instanceof Integer ? (Object) ((Integer) answer).longValue() : answer;
    }
}
