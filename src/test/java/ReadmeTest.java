import java.lang.reflect.Method;
import java.nio.file.Files;
import java.nio.file.Path;
import java.util.regex.Matcher;
import java.util.regex.Pattern;

/** README.md shows calls with their answers: they are as it says. Runs in the project's folder. */
public final class ReadmeTest {
    private static final Pattern CALL = Pattern.compile("(?m)^x\\.(\\w+)\\(([^)]*)\\);\\s*// (-?\\d+)");

    public static void main(String[] args) throws Exception {
        AlwaysAhead x = new AlwaysAhead();
        Matcher call = CALL.matcher(Files.readString(Path.of("README.md")));
        int many = 0;
        while (call.find()) {
            many++;
            Due.is("README.md: " + call.group(1) + "(" + call.group(2) + ")",
                    answer(x, call.group(1), call.group(2)), Long.parseLong(call.group(3)));
        }
        Due.isTrue("calls are found: " + many, many >= 20);
        Due.end("ReadmeTest");
    }

    private static long answer(AlwaysAhead x, String name, String listed) throws Exception {
        String[] texts = listed.isEmpty() ? new String[0] : listed.split(", ");
        for (Method method : AlwaysAhead.class.getDeclaredMethods()) {
            if (method.getName().equals(name)) {
                Object[] values = new Object[texts.length];
                for (int i = 0; i < texts.length; i++) {
                    values[i] = value(method.getParameterTypes()[i], texts[i]);
                }
                return ((Number) method.invoke(x, values)).longValue();
            }
        }
        throw new IllegalArgumentException("README.md has a call that the class hasn't: " + name);
    }

    private static Object value(Class<?> type, String text) {
        if (type == boolean.class) {
            return Boolean.valueOf(text);
        }
        return type == long.class ? (Object) Long.valueOf(text) : (Object) Integer.valueOf(text);
    }
}
