import java.lang.reflect.InvocationTargetException;
import java.lang.reflect.Method;
import java.util.ArrayList;
import java.util.Comparator;
import java.util.List;
import java.util.function.IntSupplier;

/** Runs tests, and counts and prints the calls whose answer is not the one that is due. */
final class Check {
    private static int wrong = 0;
    private static String now = "";

    private Check() {
    }

    /** Runs every test of a class (its static methods with @Says), and ends the program. */
    static void all(Class<?> tests) {
        List<Method> methods = new ArrayList<>();
        for (Method m : tests.getDeclaredMethods()) {
            if (m.isAnnotationPresent(Says.class)) {
                methods.add(m);
            }
        }
        methods.sort(Comparator.comparing(Method::getName));
        for (Method m : methods) {
            now = tests.getSimpleName() + "." + m.getName() + " (\"" + m.getAnnotation(Says.class).value() + "\"): ";
            run(m);
        }
        now = "";
        due("the number of tests is above 0", methods.isEmpty() ? 0 : 1, 1);
        System.out.print(methods.size() + " tests: ");
        end();
    }

    private static void run(Method test) {
        try {
            test.invoke(null);
        } catch (InvocationTargetException e) {
            report("the test itself threw " + e.getCause());
        } catch (IllegalAccessException e) {
            report("the test cannot be run: " + e);
        }
        Answer.noneIsOpen();
    }

    static void due(String call, long got, long want) {
        if (got != want) {
            report(call + " answered " + got + ", due is " + want);
        }
    }

    static void due(String call, String got, String want) {
        if (!got.equals(want)) {
            report(call + " answered " + got + ", due is " + want);
        }
    }

    /** An exception is told by its own class, not one above it: what the machine throws is often below what is due. */
    static String answerOf(IntSupplier made) {
        try {
            return Integer.toString(made.getAsInt());
        } catch (RuntimeException e) {
            return "throws." + e.getClass().getSimpleName();
        }
    }

    static void report(String text) {
        wrong++;
        if (wrong <= 50) {
            System.out.println(now + text);
        }
    }

    static void end() {
        System.out.println(wrong == 0 ? "all answers are as due" : wrong + " answers are not as due");
        if (wrong != 0) {
            System.exit(1);
        }
    }
}
