import java.io.IOException;
import java.lang.reflect.InvocationTargetException;
import java.lang.reflect.Method;
import java.nio.file.Files;
import java.nio.file.Path;
import java.util.ArrayList;
import java.util.List;
import java.util.TreeSet;
import java.util.regex.Matcher;
import java.util.regex.Pattern;

/** What README.md shows of the class's use is as the class answers. */
public final class ReadmeTest {
    private static final String MADE = "BlockLog log = new BlockLog();";
    private static final Pattern CALL = Pattern.compile("log\\.(\\w+)\\(([^)]*)\\);\\s*// (.*)");
    private static final Pattern TABLE_ROW = Pattern.compile("\\| `(\\w+)\\(([^)]*)\\)` \\|.*");

    private ReadmeTest() {
    }

    public static void main(String[] args) throws IOException, ReflectiveOperationException {
        List<String> lines = Files.readAllLines(Path.of("README.md"));
        TreeSet<String> shown = new TreeSet<>();
        BlockLog log = new BlockLog();
        for (String line : javaLines(lines)) {
            Matcher m = CALL.matcher(line);
            if (m.matches()) {
                shown.add(m.group(1));
                dueCall(log, m.group(1), numbersIn(m.group(2)), m.group(3));
            } else if (!line.equals(MADE) && !line.isEmpty()) {
                Check.report("README.md shows what is no call: " + line);
            }
        }
        Check.due("the calls that README.md shows", shown.toString(), namesOfTheFace().toString());
        Check.due("the calls in README.md's table", namesInTheTable(lines).toString(), namesOfTheFace().toString());
        Check.end();
    }

    private static List<String> javaLines(List<String> lines) {
        int from = lines.indexOf("```java") + 1;
        List<String> behind = lines.subList(from, lines.size());
        return behind.subList(0, behind.indexOf("```"));
    }

    /** An answer is told as "4", "BlockLog.NONE" or "throws E", alone or with words behind a colon. */
    private static void dueCall(BlockLog log, String name, List<Object> numbers, String told)
            throws ReflectiveOperationException {
        Class<?>[] types = new Class<?>[numbers.size()];
        java.util.Arrays.fill(types, int.class);
        Method call = BlockLog.class.getMethod(name, types);
        String got = answerOf(log, call, numbers);
        if (call.getReturnType() != void.class || got.startsWith("throws ")) {
            String due = told.replaceFirst(":.*", "").replace("BlockLog.NONE", "-1");
            Check.due("README.md's " + name + numbers, got, due);
        }
    }

    private static String answerOf(BlockLog log, Method call, List<Object> numbers) throws IllegalAccessException {
        try {
            return String.valueOf(call.invoke(log, numbers.toArray()));
        } catch (InvocationTargetException e) {
            return "throws " + e.getCause().getClass().getSimpleName();
        }
    }

    private static List<Object> numbersIn(String text) {
        List<Object> numbers = new ArrayList<>();
        for (String number : text.isEmpty() ? new String[0] : text.split(", ")) {
            numbers.add(Integer.decode(number));
        }
        return numbers;
    }

    private static TreeSet<String> namesOfTheFace() {
        TreeSet<String> names = new TreeSet<>();
        for (Method m : BlockLog.class.getDeclaredMethods()) {
            if (java.lang.reflect.Modifier.isPublic(m.getModifiers())) {
                names.add(m.getName());
            }
        }
        return names;
    }

    private static TreeSet<String> namesInTheTable(List<String> lines) {
        TreeSet<String> names = new TreeSet<>();
        for (String line : lines) {
            Matcher m = TABLE_ROW.matcher(line);
            if (m.matches()) {
                names.add(m.group(1));
            }
        }
        return names;
    }
}
