import java.lang.reflect.InvocationTargetException;
import java.lang.reflect.Method;
import java.util.Arrays;
import java.util.Comparator;

/** Counts answers that are not the ones that are due, and ends a test with exit code 1 if there was one. */
final class Checks {
    private int wrong = 0;
    private String topic = "";

    void topic(String name) {
        topic = name;
    }

    void due(String call, long got, long want) {
        if (got != want) {
            wrong++;
            System.out.println(topic + ": " + call + " answered " + got + ", due is " + want);
        }
    }

    void due(String call, boolean got, boolean want) {
        due(call, got ? 1L : 0L, want ? 1L : 0L);
    }

    int wrong() {
        return wrong;
    }

    /**
     * Runs every method of a class whose name begins with p and the two digits of a promise, so that
     * no test can be written and left out; one that throws does not keep the others from running.
     */
    void runAll(Class<?> tests) throws IllegalAccessException {
        Method[] methods = tests.getDeclaredMethods();
        Arrays.sort(methods, Comparator.comparing(Method::getName));
        int ran = 0;
        for (Method method : methods) {
            if (method.getName().matches("p\\d\\d\\w+")) {
                topic(method.getName());
                runOne(method);
                ran++;
            }
        }
        System.out.println(tests.getName() + ": " + ran + " tests");
        due("how many tests there are", ran > 0, true);
        end();
    }

    private void runOne(Method method) throws IllegalAccessException {
        try {
            method.invoke(null);
        } catch (InvocationTargetException e) {
            due("the test threw " + e.getCause(), true, false);
        }
    }

    void end() {
        System.out.println(wrong == 0 ? "all answers are as due" : wrong + " answers are not as due");
        if (wrong != 0) {
            System.exit(1);
        }
    }
}
