import java.io.IOException;
import java.lang.reflect.Method;
import java.lang.reflect.Modifier;
import java.nio.file.Files;
import java.nio.file.Path;
import java.util.List;
import java.util.regex.Matcher;
import java.util.regex.Pattern;

/** The calls that stand in README.md answer what stands behind them there; it names each call that there is. */
public final class ReadmeTest {
    private static final Pattern CALL = Pattern.compile("x\\.(\\w+)\\(([^)]*)\\);\\s*// (-?\\d+)(?:: .*)?");
    private static final String MAKING = "TailPatches x = new TailPatches();";

    private ReadmeTest() { }

    public static void main(String[] args) throws IOException, ReflectiveOperationException {
        List<String> lines = Files.readAllLines(Path.of("README.md"));
        TailPatches x = null;
        boolean inside = false;
        int calls = 0;
        for (String line : lines) {
            if (line.startsWith("```")) {
                inside = line.equals("```java");
            } else if (inside && line.equals(MAKING)) {
                x = new TailPatches();
            } else if (inside) {
                Matcher call = CALL.matcher(line);
                boolean fits = x != null && call.matches();
                Calls.due("a call with its answer: " + line, fits ? 1 : 0, 1);
                if (fits) {
                    Calls.due(line, answer(x, call.group(1), call.group(2)), Integer.parseInt(call.group(3)));
                    calls++;
                }
            }
        }
        Calls.due("there are calls in README.md", calls > 0 ? 1 : 0, 1);
        namesAll(String.join("\n", lines));
        Calls.close();
    }

    private static int answer(TailPatches x, String name, String list) throws ReflectiveOperationException {
        String[] texts = list.isEmpty() ? new String[0] : list.split(", ");
        Class<?>[] types = new Class<?>[texts.length];
        Object[] numbers = new Object[texts.length];
        for (int i = 0; i < texts.length; i++) {
            types[i] = int.class;
            numbers[i] = Integer.decode(texts[i]);
        }
        return (Integer) TailPatches.class.getMethod(name, types).invoke(x, numbers);
    }

    private static void namesAll(String text) {
        for (Method method : TailPatches.class.getDeclaredMethods()) {
            if (Modifier.isPublic(method.getModifiers())) {
                boolean named = Pattern.compile("`" + method.getName() + "[`(]").matcher(text).find();
                Calls.due("README.md names " + method.getName(), named ? 1 : 0, 1);
            }
        }
    }
}
