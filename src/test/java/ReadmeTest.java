import java.io.IOException;
import java.lang.reflect.InvocationTargetException;
import java.lang.reflect.Method;
import java.nio.file.Files;
import java.nio.file.Path;
import java.util.regex.Matcher;
import java.util.regex.Pattern;

/** README.md shows calls with the answers that they give, names every call, and tells how the tests are run. */
public final class ReadmeTest {
    private static final Pattern SHOWN = Pattern.compile("x\\.(\\w+)\\((.*)\\); +// (\\w+|-?\\d+)(:.*)?");
    private static final Checks CHECKS = new Checks();

    public static void main(String[] args) throws IOException, ReflectiveOperationException {
        String readme = Files.readString(Path.of("README.md"));
        shownCalls(readme);
        for (Method method : TradeWords.class.getMethods()) {
            boolean own = method.getDeclaringClass() == TradeWords.class;
            if (own) due("README.md names " + method.getName(), readme, "`" + method.getName() + "`");
        }
        for (String what : new String[] {"| `BAD` | -1 |", "| `NO` | -2 |", "| `FULL` | -3 |", "| `NONE` | -4 |", ".ci/run"}) {
            due("README.md says " + what, readme, what);
        }
        CHECKS.end();
    }

    private static void due(String what, String readme, String part) {
        CHECKS.due(what, readme.contains(part) ? 1 : 0, 1);
    }

    private static void shownCalls(String readme) throws ReflectiveOperationException {
        TradeWords x = null;
        int shown = 0;
        for (String line : readme.split("\n")) {
            if (line.startsWith("TradeWords x = new TradeWords();")) x = new TradeWords();
            if (!line.startsWith("x.")) continue;
            Matcher call = SHOWN.matcher(line);
            CHECKS.due("a call and its answer: " + line, call.matches() ? 1 : 0, 1);
            CHECKS.due(line, answer(x, call.group(1), call.group(2)), told(call.group(3)));
            shown++;
        }
        CHECKS.due("calls are shown", shown > 0 ? 1 : 0, 1);
    }

    private static long told(String answer) throws ReflectiveOperationException {
        return answer.matches("-?\\d+") ? Long.parseLong(answer) : TradeWords.class.getField(answer).getInt(null);
    }

    private static int answer(TradeWords x, String name, String numbers)
            throws IllegalAccessException, InvocationTargetException {
        String[] parts = numbers.isEmpty() ? new String[0] : numbers.split(", ");
        for (Method method : TradeWords.class.getMethods()) {
            if (!method.getName().equals(name) || method.getParameterCount() != parts.length) continue;
            Object[] given = new Object[parts.length];
            for (int k = 0; k < parts.length; k++) {
                long value = Long.decode(parts[k].replace("L", ""));
                given[k] = method.getParameterTypes()[k] == long.class ? (Object) value : (Object) (int) value;
            }
            return (int) method.invoke(x, given);
        }
        throw new AssertionError("there is no call " + name);
    }
}
