import java.util.function.IntSupplier;

/** Counts and prints the calls whose answer is not the one that is due. */
final class Check {
    private static int wrong = 0;

    private Check() {
    }

    static void due(String call, long got, long want) {
        if (got != want) {
            report(call + " answered " + got + ", due is " + want);
        }
    }

    static void due(String call, String got, String want) {
        if (!got.equals(want)) {
            report(call + " answered " + got + ", due is " + want);
        }
    }

    /** Due is just this class, not one below it: what the machine throws is often below what is due. */
    static void dueThrow(String call, Class<? extends RuntimeException> want, IntSupplier made) {
        due(call, answerOf(made), "throws." + want.getSimpleName());
    }

    static String answerOf(IntSupplier made) {
        try {
            return Integer.toString(made.getAsInt());
        } catch (RuntimeException e) {
            return "throws." + e.getClass().getSimpleName();
        }
    }

    static void report(String text) {
        wrong++;
        if (wrong <= 50) {
            System.out.println(text);
        }
    }

    static void end() {
        System.out.println(wrong == 0 ? "all answers are as due" : wrong + " answers are not as due");
        if (wrong != 0) {
            System.exit(1);
        }
    }
}
