import java.io.IOException;
import java.lang.reflect.InvocationTargetException;
import java.lang.reflect.Method;
import java.nio.file.Files;
import java.nio.file.Path;
import java.util.regex.Matcher;
import java.util.regex.Pattern;

/** README.md: its example answers what it tells, and it tells every call of the face. */
public final class ReadmeTest {
    private static final Pattern CALL = Pattern.compile("x\\.(\\w+)\\((.*)\\);\\s*(?:// (\\w+).*)?");

    public static void main(String[] args) throws IOException, ReflectiveOperationException {
        Check check = new Check();
        String text = Files.readString(Path.of("README.md"));
        runExample(check, text);
        for (Method method : ChainUnwinder.class.getDeclaredMethods()) {
            String told = "| `" + method.getName() + "(";
            check.is(told + " has a row", text.contains(told), true);
        }
        check.end();
    }

    private static void runExample(Check check, String text) throws ReflectiveOperationException {
        ChainUnwinder x = new ChainUnwinder();
        int calls = 0;
        for (String line : text.split("\n")) {
            Matcher call = CALL.matcher(line);
            if (call.matches()) {
                check.is(line, answer(x, call.group(1), call.group(2)).equals(call.group(3)), true);
                calls++;
            }
        }
        check.is("the example has calls", calls > 0, true);
    }

    private static String answer(ChainUnwinder x, String name, String list)
            throws ReflectiveOperationException {
        String[] texts = list.isEmpty() ? new String[0] : list.split(", ");
        for (Method method : ChainUnwinder.class.getMethods()) {
            if (method.getName().equals(name) && method.getParameterCount() == texts.length) {
                return invoke(x, method, texts);
            }
        }
        return "no such call";
    }

    private static String invoke(ChainUnwinder x, Method method, String[] texts)
            throws ReflectiveOperationException {
        Object[] values = new Object[texts.length];
        for (int i = 0; i < texts.length; i++) {
            long value = Long.decode(texts[i].replace("L", ""));
            boolean isLong = method.getParameterTypes()[i] == long.class;
            values[i] = isLong ? (Object) value : (Object) (int) value;
        }
        try {
            return String.valueOf(method.invoke(x, values));
        } catch (InvocationTargetException e) {
            return e.getCause().toString();
        }
    }
}
