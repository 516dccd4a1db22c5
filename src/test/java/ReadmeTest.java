import java.io.IOException;
import java.lang.reflect.Method;
import java.nio.file.Files;
import java.nio.file.Path;
import java.util.regex.Matcher;
import java.util.regex.Pattern;

/** That the calls which README.md tells answer what stands behind them there, one after the other. */
public final class ReadmeTest {
    private static final Due DUE = new Due("ReadmeTest");
    private static final Pattern TEXT = Pattern.compile("String text = \"(\\w+)\";");
    private static final Pattern CALL = Pattern.compile("net\\.(\\w+)\\(([^)]*)\\); +// (-?\\d+): ");

    public static void main(String[] args) throws IOException, ReflectiveOperationException {
        String readme = Files.readString(Path.of("README.md"));
        Matcher text = TEXT.matcher(readme);
        NightNet net = Due.written(text.find() ? text.group(1) : "");
        Matcher call = CALL.matcher(readme);
        while (call.find()) {
            DUE.same(call.group().trim(), asked(net, call.group(1), call.group(2)), Long.parseLong(call.group(3)));
        }
        everyCallIsTold(readme);
        DUE.close();
    }

    private static long asked(NightNet net, String name, String told) throws ReflectiveOperationException {
        String[] words = told.isEmpty() ? new String[0] : told.split(", ");
        for (Method method : NightNet.class.getMethods()) {
            if (method.getName().equals(name) && method.getParameterCount() == words.length) {
                Object[] numbers = new Object[words.length];
                for (int i = 0; i < words.length; i++) {
                    numbers[i] = method.getParameterTypes()[i] == boolean.class ? Boolean.parseBoolean(words[i])
                        : (Object) Integer.parseInt(words[i]);
                }
                return ((Number) method.invoke(net, numbers)).longValue();
            }
        }
        throw new IllegalStateException("there is no call " + name + "(" + told + ")");
    }

    private static void everyCallIsTold(String readme) {
        for (Method method : NightNet.class.getDeclaredMethods()) {
            if (java.lang.reflect.Modifier.isPublic(method.getModifiers())) {
                DUE.same("README.md tells " + method.getName(), readme.contains("`" + method.getName() + "(") ? 1 : 0, 1);
            }
        }
    }
}
