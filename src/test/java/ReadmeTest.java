import java.io.IOException;
import java.lang.reflect.InvocationTargetException;
import java.lang.reflect.Method;
import java.nio.file.Files;
import java.nio.file.Path;
import java.util.List;
import java.util.regex.Matcher;
import java.util.regex.Pattern;

/**
 * The examples in README.md: each call is made, and where a remark begins with what is due ("// 12345: ...",
 * "// throws IllegalStateException: ..."), the call answers or throws that.
 */
public final class ReadmeTest {
    private static final Checks C = new Checks("ReadmeTest");
    private static final String NEW = "TrunkCells x = new TrunkCells();";
    private static final Pattern CALL = Pattern.compile("x\\.(\\w+)\\(([^)]*)\\);\\s*(?://\\s*(.*))?");
    private static final Pattern DUE = Pattern.compile("(-?\\d+|throws \\w+): .*");

    private static TrunkCells x;
    private static int calls;
    private static int answersDue;

    public static void main(String[] args) throws IOException, ReflectiveOperationException {
        List<String> lines = Files.readAllLines(Path.of("README.md"));
        boolean inExample = false;
        for (String line : lines) {
            if (line.startsWith("```")) {
                inExample = line.equals("```java");
            } else if (inExample && line.equals(NEW)) {
                x = new TrunkCells();
            } else if (inExample && !line.isEmpty()) {
                play(line);
            }
        }
        C.due("examples with calls and answers", calls > 0 && answersDue > 0 ? 1 : 0, 1);
        C.end();
    }

    private static void play(String line) throws ReflectiveOperationException {
        Matcher call = CALL.matcher(line);
        C.due("a call of an object: " + line, x != null && call.matches() ? 1 : 0, 1);
        if (x == null || !call.matches()) {
            return;
        }
        calls++;
        String got = answer(methodNamed(call.group(1)), call.group(2).split(",\\s*"));
        Matcher due = DUE.matcher(call.group(3) == null ? "" : call.group(3));
        String wanted = due.matches() ? due.group(1) : got.startsWith("throws") ? "no exception" : got;
        answersDue += due.matches() ? 1 : 0;
        C.due(line + " (answered " + got + ")", got.equals(wanted) ? 1 : 0, 1);
    }

    private static Method methodNamed(String name) throws NoSuchMethodException {
        for (Method method : TrunkCells.class.getMethods()) {
            if (method.getName().equals(name)) {
                return method;
            }
        }
        throw new NoSuchMethodException(name);
    }

    private static String answer(Method method, String[] written) throws ReflectiveOperationException {
        Class<?>[] types = method.getParameterTypes();
        Object[] values = new Object[written.length];
        for (int i = 0; i < written.length; i++) {
            long value = written[i].equals("TrunkCells.NONE") ? TrunkCells.NONE
                    : Long.decode(written[i].replace("L", ""));
            if (types[i] == int.class) {
                values[i] = (int) value;
            } else {
                values[i] = value;
            }
        }
        try {
            return String.valueOf(method.invoke(x, values));
        } catch (InvocationTargetException e) {
            return "throws " + e.getCause().getClass().getSimpleName();
        }
    }
}
