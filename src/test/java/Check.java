import java.lang.reflect.InvocationTargetException;
import java.lang.reflect.Method;
import java.util.Map;
import java.util.TreeMap;

/** Counts the answers that are not due, prints them, and ends the test. */
final class Check {
    interface Call {
        void go();
    }

    private static final int PRINTED = 40;
    private static int asked = 0;
    private static int wrong = 0;
    private static String test = "";

    private Check() {
    }

    /** Runs each test of a class: its methods named after a promise, in the order of their names. */
    static void all(Class<?> tests) {
        Map<String, Method> named = new TreeMap<>();
        for (Method method : tests.getDeclaredMethods()) {
            if (method.getName().startsWith("promise")) {
                named.put(method.getName(), method);
            }
        }
        for (Map.Entry<String, Method> each : named.entrySet()) {
            test = each.getKey() + ": ";
            int before = asked;
            run(each.getValue());
            due("it asks something", asked > before);
        }
        test = "";
        System.out.println(tests.getName() + ": " + named.size() + " tests");
        end(tests.getName());
    }

    private static void run(Method method) {
        try {
            method.setAccessible(true);
            method.invoke(null);
        } catch (InvocationTargetException thrown) {
            due("ends", thrown.getCause().toString(), "with no exception");
        } catch (IllegalAccessException thrown) {
            throw new AssertionError(thrown);
        }
    }

    static void due(String what, long got, long due) {
        judge(what, got == due, String.valueOf(got), String.valueOf(due));
    }

    static void due(String what, double got, double due) {
        judge(what, got == due, String.valueOf(got), String.valueOf(due));
    }

    static void due(String what, String got, String due) {
        judge(what, got.equals(due), got, due);
    }

    static void due(String what, boolean got) {
        judge(what, got, "false", "true");
    }

    static void index(String what, Call call) {
        due(what, thrownBy(call), "IndexOutOfBoundsException");
    }

    static void argument(String what, Call call) {
        due(what, thrownBy(call), "IllegalArgumentException");
    }

    static void state(String what, Call call) {
        due(what, thrownBy(call), "IllegalStateException");
    }

    /** The name of just the class that a call throws. */
    static String thrownBy(Call call) {
        try {
            call.go();
        } catch (RuntimeException thrown) {
            return nameOf(thrown);
        }
        return "nothing";
    }

    /** The name of an exception's class, and who threw it if that was not the program's own throw. */
    static String nameOf(RuntimeException thrown) {
        String name = thrown.getClass().getSimpleName();
        StackTraceElement[] calls = thrown.getStackTrace();
        boolean own = calls.length > 0 && calls[0].getClassName().equals("Connectory");
        return own ? name : name + " by the machine";
    }

    static void end(String test) {
        System.out.println(test + ": " + (asked - wrong) + " answers are as due, " + wrong + " are not");
        if (wrong != 0 || asked == 0) {
            System.exit(1);
        }
    }

    private static void judge(String what, boolean right, String got, String due) {
        asked++;
        if (!right) {
            wrong++;
            if (wrong <= PRINTED) {
                System.out.println(test + what + " answered " + got + ", due is " + due);
            }
        }
    }
}
