import java.io.IOException;
import java.lang.reflect.InvocationTargetException;
import java.lang.reflect.Method;
import java.nio.file.Files;
import java.nio.file.Path;
import java.util.HashMap;
import java.util.Map;
import java.util.regex.Matcher;
import java.util.regex.Pattern;

/** Every line of README.md's examples is called as it stands there, and answers what the words behind it begin with. */
public final class ReadmeTest {
    private static final Pattern CALL = Pattern.compile("x\\.(\\w+)\\(([^)]*)\\);\\s+// (-?\\d+|throws \\w+)(:.*)?");
    private static final String NEW_OBJECT = "LineRules x = new LineRules();";

    private final Map<String, Method> face = new HashMap<>();
    private LineRules x = new LineRules();
    private int examples;

    private ReadmeTest() {
        for (Method method : LineRules.class.getMethods()) {
            face.put(method.getName(), method);
        }
    }

    public static void main(String[] args) throws IOException, IllegalAccessException {
        new ReadmeTest().run();
        Check.finish();
    }

    private void run() throws IOException, IllegalAccessException {
        boolean inside = false;
        for (String line : Files.readAllLines(Path.of("README.md"))) {
            if (line.startsWith("```")) {
                inside = line.equals("```java");
            } else if (inside) {
                read(line);
            }
        }
        Check.due("examples in README.md", examples, 3);
    }

    private void read(String line) throws IllegalAccessException {
        if (line.equals(NEW_OBJECT)) {
            x = new LineRules();
            examples++;
            return;
        }
        Matcher call = CALL.matcher(line);
        boolean isCall = call.matches() && face.containsKey(call.group(1));
        Check.due(line + " is a call with its answer", isCall, true);
        if (isCall) {
            Check.due(line, answer(face.get(call.group(1)), call.group(2)), call.group(3));
        }
    }

    private String answer(Method method, String arguments) throws IllegalAccessException {
        String[] words = arguments.isEmpty() ? new String[0] : arguments.split(", ");
        Object[] numbers = new Object[words.length];
        for (int i = 0; i < words.length; i++) {
            numbers[i] = Integer.decode(words[i]);
        }
        try {
            return String.valueOf(method.invoke(x, numbers));
        } catch (InvocationTargetException e) {
            return "throws " + e.getCause().getClass().getSimpleName();
        }
    }
}
