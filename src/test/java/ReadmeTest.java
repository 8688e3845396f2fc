import java.io.IOException;
import java.lang.reflect.InvocationTargetException;
import java.lang.reflect.Method;
import java.lang.reflect.Modifier;
import java.nio.file.Files;
import java.nio.file.Path;
import java.util.regex.Matcher;
import java.util.regex.Pattern;

/** README.md names each method, and in its examples each call answers what the words behind it begin with. */
public final class ReadmeTest {
    private static final Path README = Path.of("README.md");
    private static final Pattern FEED = Pattern.compile("feed\\(x, \"([^\"]*)\"\\);.*");
    private static final Pattern CALL = Pattern.compile("x\\.(\\w+)\\(([^)]*)\\);\\s*// (-?\\d+|true|false)\\b.*");

    private ReadmeTest() {
    }

    public static void main(String[] args) throws IOException, ReflectiveOperationException {
        String readme = Files.readString(README);
        String[] parts = readme.split("```");
        int calls = 0;
        for (int i = 1; i < parts.length; i += 2) {
            if (parts[i].startsWith("java\n")) {
                calls += runExample(parts[i].split("\n"));
            }
        }
        Checks.due("calls in the examples are some", calls > 20, true);
        namesAll(readme);
        Checks.finish("ReadmeTest");
    }

    private static void namesAll(String readme) {
        for (Method m : CouplesPaving.class.getDeclaredMethods()) {
            boolean named = Modifier.isPrivate(m.getModifiers()) || readme.contains("`" + m.getName() + "`");
            Checks.due("README.md names " + m.getName(), named, true);
        }
    }

    private static int runExample(String[] lines) throws ReflectiveOperationException {
        CouplesPaving x = new CouplesPaving();
        int calls = 0;
        for (int i = 1; i < lines.length; i++) {
            Matcher feed = FEED.matcher(lines[i]);
            Matcher call = CALL.matcher(lines[i]);
            if (feed.matches()) {
                Checks.feed(x, feed.group(1));
            } else if (call.matches()) {
                Checks.due(lines[i], answer(x, call.group(1), call.group(2)), number(call.group(3)));
                calls++;
            } else {
                Checks.due(lines[i], lines[i].equals("CouplesPaving x = new CouplesPaving();"), true);
            }
        }
        return calls;
    }

    private static int answer(CouplesPaving x, String name, String arguments)
            throws IllegalAccessException, InvocationTargetException {
        String[] told = arguments.isEmpty() ? new String[0] : arguments.split(", ");
        for (Method m : CouplesPaving.class.getMethods()) {
            if (m.getName().equals(name) && m.getParameterCount() == told.length) {
                Object[] values = new Object[told.length];
                for (int i = 0; i < told.length; i++) {
                    boolean truth = m.getParameterTypes()[i] == boolean.class;
                    values[i] = truth ? (Object) told[i].equals("true") : (Object) number(told[i]);
                }
                return number(m.invoke(x, values).toString());
            }
        }
        return Integer.MIN_VALUE;
    }

    private static int number(String told) {
        switch (told) {
            case "NONE":
                return CouplesPaving.NONE;
            case "true":
                return 1;
            case "false":
                return 0;
            default:
                return Integer.decode(told);
        }
    }
}
