import java.io.IOException;
import java.lang.reflect.InvocationTargetException;
import java.lang.reflect.Method;
import java.nio.file.Files;
import java.nio.file.Path;
import java.util.regex.Matcher;
import java.util.regex.Pattern;

/** The examples in README.md: every call in them is done, and answers what the comment behind it says. */
public final class ReadmeTest {
    private static final Pattern CALL = Pattern.compile("machine\\.(\\w+)\\((.*?)\\);\\s*(?://\\s*(.*))?");
    private static final Pattern NUMBER = Pattern.compile("(-?(?:0x[0-9A-F]+|\\d+))\\b.*");
    private static final Pattern THROWN = Pattern.compile("throws (\\w+)");
    private static final Check CHECK = new Check();

    private QuadMode machine;
    private int answers;

    private static Method methodOf(String name) {
        for (Method m : QuadMode.class.getMethods()) {
            if (m.getDeclaringClass() == QuadMode.class && m.getName().equals(name)) {
                return m;
            }
        }
        throw new IllegalStateException("README.md calls " + name + ", which is none of the face");
    }

    private static Object argument(String text, Class<?> type) {
        if (type == boolean.class) {
            return Boolean.parseBoolean(text);
        }
        String digits = text.endsWith("L") ? text.substring(0, text.length() - 1) : text;
        long number = number(digits);
        return type == long.class ? (Object) number : (Object) (int) number;
    }

    private static long number(String digits) {
        return digits.startsWith("0x") ? Long.parseUnsignedLong(digits.substring(2), 16) : Long.parseLong(digits);
    }

    private void call(String line, String name, String list, String comment) throws IllegalAccessException {
        Method method = methodOf(name);
        Class<?>[] types = method.getParameterTypes();
        String[] texts = list.isEmpty() ? new String[0] : list.split(",\\s*");
        Object[] arguments = new Object[types.length];
        for (int i = 0; i < types.length; i++) {
            arguments[i] = argument(texts[i], types[i]);
        }
        Matcher thrown = THROWN.matcher(comment);
        String due = thrown.matches() ? thrown.group(1) : "";
        try {
            Object got = method.invoke(machine, arguments);
            CHECK.due(line + " (1: throws nothing)", 1, due.isEmpty() ? 1 : 0);
            compare(line, got, comment);
        } catch (InvocationTargetException e) {
            boolean asDue = e.getCause().getClass().getSimpleName().equals(due);
            CHECK.due(line + " (1: threw what is due, not " + e.getCause() + ")", asDue ? 1 : 0, 1);
            answers++;
        }
    }

    private void compare(String line, Object got, String comment) {
        Matcher number = NUMBER.matcher(comment);
        if (got instanceof Integer && number.matches()) {
            CHECK.due(line, (Integer) got, (int) number(number.group(1)));
            answers++;
        }
    }

    private void line(String line) throws IllegalAccessException {
        if (line.startsWith("QuadMode machine = new QuadMode()")) {
            machine = new QuadMode();
        }
        Matcher call = CALL.matcher(line);
        if (call.matches()) {
            call(line, call.group(1), call.group(2), call.group(3) == null ? "" : call.group(3));
        }
    }

    public static void main(String[] args) throws IOException, IllegalAccessException {
        ReadmeTest test = new ReadmeTest();
        boolean inExample = false;
        for (String line : Files.readAllLines(Path.of("README.md"))) {
            if (line.startsWith("```")) {
                inExample = line.equals("```java");
            } else if (inExample) {
                test.line(line);
            }
        }
        CHECK.due("answers in the examples", test.answers, 15);
        CHECK.end();
    }
}
