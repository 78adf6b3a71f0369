import java.io.IOException;
import java.lang.reflect.InvocationTargetException;
import java.lang.reflect.Method;
import java.nio.file.Files;
import java.nio.file.Path;
import java.util.HashMap;
import java.util.Map;
import java.util.regex.Matcher;
import java.util.regex.Pattern;

/** The example in README.md: each of its calls answers what is said behind it. */
public final class ReadmeTest {
    private static final Pattern CALL = Pattern.compile("(?:int (\\w+) = )?x\\.(\\w+)\\((.*?)\\);(?:\\s+// (.*))?");
    private static final Pattern TYPED = Pattern.compile("for \\(char c : \"(.*)\"\\.toCharArray\\(\\)\\) \\{");

    private static final FixtureTables x = new FixtureTables();
    private static final Map<String, Integer> names = new HashMap<>();

    private ReadmeTest() {
    }

    public static void main(String[] args) throws IOException {
        for (String line : example().split("\n")) {
            Matcher typed = TYPED.matcher(line);
            Matcher call = CALL.matcher(line);
            if (typed.matches()) {
                typed.group(1).chars().forEach(c -> x.type((char) c));
            } else if (call.matches()) {
                ask(call);
            } else {
                Due.is("an answer that was not asked in: " + line, -1, () -> line.indexOf("// "));
            }
        }
        Due.end();
    }

    private static String example() throws IOException {
        String text = Files.readString(Path.of("README.md"));
        int start = text.indexOf("```java");
        return text.substring(start, text.indexOf("```", start + 1));
    }

    private static void ask(Matcher call) {
        String answer = answer(call.group(2), call.group(3).isEmpty() ? new String[0] : call.group(3).split(", "));
        if (call.group(1) != null) {
            names.put(call.group(1), Integer.valueOf(answer));
        }
        if (call.group(4) != null) {
            Due.same(call.group(), call.group(4).replaceAll(":.*", ""), answer);
        }
        if (call.group(2).equals("write")) {
            Due.same("what was written", call.group(4).replaceAll(".*: ", ""), Due.writtenText(x));
        }
    }

    private static String answer(String name, String[] arguments) {
        for (Method method : FixtureTables.class.getMethods()) {
            if (method.getName().equals(name) && method.getDeclaringClass() == FixtureTables.class) {
                return answer(method, arguments);
            }
        }
        return "no such call";
    }

    private static String answer(Method method, String[] arguments) {
        Object[] values = new Object[arguments.length];
        for (int i = 0; i < arguments.length; i++) {
            values[i] = valueOf(arguments[i], method.getParameterTypes()[i]);
        }
        try {
            return String.valueOf(method.invoke(x, values));
        } catch (InvocationTargetException e) {
            return "throws " + e.getCause().getClass().getSimpleName();
        } catch (IllegalAccessException e) {
            return "no call of the face";
        }
    }

    private static Object valueOf(String argument, Class<?> type) {
        if (type == boolean.class) {
            return Boolean.valueOf(argument);
        }
        int number = names.containsKey(argument) ? names.get(argument) : Integer.parseInt(argument);
        return type == long.class ? (Object) Long.valueOf(number) : (Object) Integer.valueOf(number);
    }
}
