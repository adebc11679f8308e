import java.io.IOException;
import java.lang.reflect.InvocationTargetException;
import java.lang.reflect.Method;
import java.nio.file.Files;
import java.nio.file.Path;
import java.util.regex.Matcher;
import java.util.regex.Pattern;

/**
 * The README's example, run as it stands there. In its java parts the number or character with which a line's comment
 * begins is what the line's last call must answer; each text part must be OUT at that point.
 */
public final class ReadmeTest extends TestTools {
    private static final Pattern CALL = Pattern.compile("bench\\.(\\w+)\\(([^)]*)\\)");
    private static final Pattern ANSWER = Pattern.compile("// (-?\\d+|'.')(?=[: ,]|$)");
    private static final int LEAST_CHECKS = 20;

    private static final WitnessBench BENCH = new WitnessBench();

    public static void main(String[] args) throws IOException, ReflectiveOperationException {
        part = "README.md";
        String fence = "";
        StringBuilder text = new StringBuilder();
        for (String line : Files.readAllLines(Path.of("README.md"))) {
            if (line.startsWith("```")) {
                if (fence.equals("text")) {
                    dueText("OUT", out(BENCH), text.toString());
                }
                fence = fence.isEmpty() ? line.substring(3) : "";
                text.setLength(0);
            } else if (fence.equals("java")) {
                runLine(line);
            } else if (fence.equals("text")) {
                text.append(line).append('\n');
            }
        }
        due("the example has enough answers (1: yes)", checks >= LEAST_CHECKS ? 1 : 0, 1);
        tellAndExit();
    }

    private static void runLine(String line) throws ReflectiveOperationException {
        Object answer = null;
        Matcher call = CALL.matcher(line);
        while (call.find()) {
            answer = made(call.group(1), call.group(2));
        }
        Matcher due = ANSWER.matcher(line);
        if (due.find()) {
            due(line.trim(), answer == null ? Long.MIN_VALUE : (Integer) answer, value(due.group(1)));
        }
    }

    private static Object made(String name, String list) throws ReflectiveOperationException {
        String[] texts = list.isEmpty() ? new String[0] : list.split(", ");
        for (Method m : WitnessBench.class.getMethods()) {
            if (m.getName().equals(name) && m.getParameterCount() == texts.length) {
                Object[] values = new Object[texts.length];
                for (int k = 0; k < texts.length; k++) {
                    values[k] = argument(m.getParameterTypes()[k], texts[k]);
                }
                try {
                    return m.invoke(BENCH, values);
                } catch (InvocationTargetException e) {
                    throw new IllegalStateException(name + "(" + list + ") threw " + e.getCause());
                }
            }
        }
        throw new IllegalStateException("no call " + name + "(" + list + ")");
    }

    private static Object argument(Class<?> type, String text) {
        if (type == boolean.class) {
            return Boolean.valueOf(text);
        }
        if (type == char.class) {
            return (char) value(text);
        }
        return value(text);
    }

    private static int value(String text) {
        if (text.startsWith("'")) {
            return text.charAt(1);
        }
        return text.equals("WitnessBench.NONE") ? NONE : Integer.parseInt(text);
    }
}
