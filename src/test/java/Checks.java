import java.lang.reflect.InvocationTargetException;
import java.lang.reflect.Method;
import java.lang.reflect.Modifier;
import java.util.Arrays;
import java.util.Comparator;

/** What the edge tests have in common: the names of the document, and the answers that are compared. */
abstract class Checks {
    static final int NONE = -1, BAD = -2, STATE = -3, FULL = -4;
    static final int ONCE = 0, RATE = 1, PAUSE = 2, CALENDAR = 3, AFTER = 4;
    static final int LENGTH = 0, RANK = 1, GROUP = 2, OVERLAP = 3, MISS = 4, FAILURE = 5;
    static final int LEAST = Integer.MIN_VALUE, MOST = Integer.MAX_VALUE;
    private static int wrong = 0;

    private static void tell(String what) {
        wrong++;
        StackTraceElement at = new Throwable().getStackTrace()[2];
        System.out.println(at.getFileName() + " line " + at.getLineNumber() + ", " + at.getMethodName() + ": " + what);
    }

    static void due(int want, int got) {
        if (want != got) tell("answered " + got + ", due is " + want);
    }

    /** Row i of the book. */
    static void row(CinemaClock c, int i, int task, int minute, int fate) {
        int[] want = {task, minute, fate};
        int[] got = {c.book(i, 0), c.book(i, 1), c.book(i, 2)};
        if (!Arrays.equals(want, got)) tell("row " + i + " is " + Arrays.toString(got) + ", due is " + Arrays.toString(want));
    }

    /** The task, the due's minute and the minute of beginning of run i. */
    static void began(CinemaClock c, int i, int task, int dueMinute, int begin) {
        int[] want = {task, dueMinute, begin};
        int[] got = {c.run(i, 0), c.run(i, 1), c.run(i, 2)};
        if (!Arrays.equals(want, got)) tell("run " + i + " is " + Arrays.toString(got) + ", due is " + Arrays.toString(want));
    }

    /** The minute of the end of run i, what became of it, and the kind with which it failed. */
    static void ended(CinemaClock c, int i, int minute, int outcome, int kind) {
        int[] want = {minute, outcome, kind};
        int[] got = {c.run(i, 3), c.run(i, 4), c.run(i, 5)};
        if (!Arrays.equals(want, got)) tell("run " + i + " is " + Arrays.toString(got) + ", due is " + Arrays.toString(want));
    }

    /** Due i of those that wait. */
    static void waits(CinemaClock c, int i, int task, int minute, int late) {
        int[] want = {task, minute, late};
        int[] got = {c.waiting(i, 0), c.waiting(i, 1), c.waiting(i, 2)};
        if (!Arrays.equals(want, got)) tell("due " + i + " is " + Arrays.toString(got) + ", due is " + Arrays.toString(want));
    }

    static void same(String what, int[] want, int[] got) {
        if (!Arrays.equals(want, got)) tell(what + ": " + Arrays.toString(got) + ", due is " + Arrays.toString(want));
    }

    /** Runs each method of a class that takes nothing, by name; the program ends with 1 if an answer was wrong. */
    static void runAll(Class<?> tests) throws ReflectiveOperationException {
        Method[] all = tests.getDeclaredMethods();
        Arrays.sort(all, Comparator.comparing(Method::getName));
        int count = 0;
        for (Method m : all) {
            if (m.isSynthetic() || m.getParameterCount() > 0 || m.getReturnType() != void.class) continue;
            if (!Modifier.isStatic(m.getModifiers())) continue;
            try {
                m.invoke(null);
            } catch (InvocationTargetException e) {
                wrong++;
                System.out.println(m.getName() + " threw " + e.getCause());
            }
            count++;
        }
        System.out.println(tests.getName() + ": " + count + " tests, " + wrong + " answers are not as due");
        if (wrong > 0 || count == 0) System.exit(1);
    }
}
