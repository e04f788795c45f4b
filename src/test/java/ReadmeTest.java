import java.io.IOException;
import java.lang.reflect.InvocationTargetException;
import java.lang.reflect.Method;
import java.nio.file.Files;
import java.nio.file.Path;
import java.util.regex.Matcher;
import java.util.regex.Pattern;

/** Runs the calls that README.md shows, and holds their answers against those that stand behind them. */
public final class ReadmeTest {
    private static final Pattern PUT = Pattern.compile("^put\\(x, \"([^\"]*)\"\\);.*");
    private static final Pattern CALL = Pattern.compile("^x\\.(\\w+)\\(([^)]*)\\);\\s*// (throws \\w+|-?\\w+).*");

    public static void main(String[] args) throws IOException, IllegalAccessException {
        OneWindow x = null;
        int calls = 0;
        String readme = Files.readString(Path.of("README.md"));
        for (String line : readme.split("\n")) {
            Matcher put = PUT.matcher(line);
            Matcher call = CALL.matcher(line);
            if (line.startsWith("OneWindow x = ")) {
                x = new OneWindow();
            } else if (put.matches()) {
                Tester.put(x, put.group(1));
            } else if (call.matches()) {
                calls++;
                String got = answer(x, call.group(1), call.group(2));
                Tester.due(line + " answered " + got, got.equals(call.group(3)), true);
            } else {
                Tester.due("not read: " + line, line.startsWith("x.") || line.startsWith("put("), false);
            }
        }
        Tester.due("calls of README.md", calls >= 20, true);
        namesAll(readme);
        Tester.end();
    }

    private static String answer(OneWindow x, String name, String told) throws IllegalAccessException {
        String[] words = told.isEmpty() ? new String[0] : told.split(", ");
        Method method = method(name);
        Object[] values = new Object[words.length];
        for (int i = 0; i < words.length; i++) {
            Class<?> type = method.getParameterTypes()[i];
            if (type == boolean.class) {
                values[i] = words[i].equals("true");
            } else if (type == long.class) {
                values[i] = Long.parseLong(words[i].replace("L", ""));
            } else {
                values[i] = Integer.parseInt(words[i]);
            }
        }
        try {
            return String.valueOf(method.invoke(x, values));
        } catch (InvocationTargetException thrown) {
            return "throws " + thrown.getCause().getClass().getSimpleName();
        }
    }

    private static Method method(String name) {
        for (Method method : OneWindow.class.getDeclaredMethods()) {
            if (method.getName().equals(name)) {
                return method;
            }
        }
        throw new IllegalStateException("README.md calls what is not there: " + name);
    }

    private static void namesAll(String readme) {
        for (Method method : OneWindow.class.getMethods()) {
            if (method.getDeclaringClass() == OneWindow.class) {
                Tester.due("README.md names " + method.getName(), readme.contains("`" + method.getName() + "`"), true);
            }
        }
    }
}
