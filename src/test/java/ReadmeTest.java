import java.io.IOException;
import java.lang.reflect.InvocationTargetException;
import java.lang.reflect.Method;
import java.lang.reflect.Modifier;
import java.nio.charset.StandardCharsets;
import java.nio.file.Files;
import java.nio.file.Path;
import java.util.regex.Matcher;
import java.util.regex.Pattern;

/** That README.md tells the truth: the calls it shows answer what stands behind them, and none of the face is left out. */
final class ReadmeTest {
    private static final Pattern BLOCK = Pattern.compile("(?s)```java\n(.*?)```");
    private static final Pattern CALL = Pattern.compile("x\\.(\\w+)\\(([^)]*)\\);\\s*// (-?\\d+)(:.*)?");
    private static final int FEWEST_CALLS = 30;

    private TwoSidedTables x = new TwoSidedTables();
    private int made = 0;

    public static void main(String[] args) throws IOException, ReflectiveOperationException {
        String readme = Files.readString(Path.of("README.md"), StandardCharsets.UTF_8);
        ReadmeTest test = new ReadmeTest();
        Matcher block = BLOCK.matcher(readme);
        while (block.find()) {
            for (String line : block.group(1).split("\n")) {
                test.look(line);
            }
        }
        Due.is("calls shown, fewer than " + FEWEST_CALLS, test.made < FEWEST_CALLS ? test.made : 0, 0);
        for (Method method : TwoSidedTables.class.getDeclaredMethods()) {
            if (Modifier.isPublic(method.getModifiers())) {
                boolean isNamed = readme.contains("`" + method.getName() + "`");
                Due.is(method.getName() + " is named", isNamed ? 1 : 0, 1);
            }
        }
        Due.end();
    }

    private void look(String line) throws ReflectiveOperationException {
        if (line.contains("new TwoSidedTables()")) {
            x = new TwoSidedTables();
            return;
        }
        Matcher call = CALL.matcher(line);
        boolean isCall = call.matches();
        Due.is("a line that is no call with its answer: " + line, isCall ? 1 : 0, 1);
        if (isCall) {
            made++;
            Due.is("README: " + line, answer(call.group(1), call.group(2)), Long.parseLong(call.group(3)));
        }
    }

    private long answer(String name, String told) throws ReflectiveOperationException {
        String[] words = told.isEmpty() ? new String[0] : told.split(", ");
        for (Method method : TwoSidedTables.class.getDeclaredMethods()) {
            if (method.getName().equals(name) && method.getParameterCount() == words.length) {
                Object[] given = new Object[words.length];
                for (int i = 0; i < words.length; i++) {
                    given[i] = number(words[i], method.getParameterTypes()[i]);
                }
                return made(method, given);
            }
        }
        throw new IllegalStateException("no call " + name + " of " + words.length + " numbers");
    }

    private long made(Method method, Object[] given) throws ReflectiveOperationException {
        try {
            return ((Number) method.invoke(x, given)).longValue();
        } catch (InvocationTargetException thrown) {
            throw new IllegalStateException(method + " threw", thrown.getCause());
        }
    }

    private static Object number(String word, Class<?> type) {
        long v = Long.decode(word.endsWith("L") ? word.substring(0, word.length() - 1) : word);
        if (type == long.class) {
            return v;
        }
        return Math.toIntExact(v);
    }
}
