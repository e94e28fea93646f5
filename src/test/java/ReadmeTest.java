import java.io.IOException;
import java.lang.reflect.InvocationTargetException;
import java.lang.reflect.Method;
import java.nio.file.Files;
import java.nio.file.Path;
import java.util.regex.Matcher;
import java.util.regex.Pattern;

/** What README.md says: its example answers what stands beside each call, its table names each call. */
public final class ReadmeTest {
    private static final Pattern EXAMPLE = Pattern.compile("tide\\.(\\w+)\\(([^)]*)\\); *// (throws \\w+|[^: ]+)(:.*)?");
    private static final int LEAST_EXAMPLES = 10;

    private static final Check CHECK = new Check();

    public static void main(String[] args) throws IOException, IllegalAccessException {
        String readme = Files.readString(Path.of("README.md"));
        runsItsExample(readme);
        namesEachCall(readme);
        CHECK.end();
    }

    private static void runsItsExample(String readme) throws IllegalAccessException {
        ColourTide tide = new ColourTide();
        int found = 0;
        for (String line : readme.split("\n")) {
            if (line.startsWith("tide.")) {
                found++;
                Matcher example = EXAMPLE.matcher(line);
                CHECK.same("is a call and its answer: " + line, example.matches(), true);
                if (example.matches()) {
                    CHECK.same(line, answer(tide, example.group(1), example.group(2)), example.group(3));
                }
            }
        }
        CHECK.same("the example is there", found >= LEAST_EXAMPLES, true);
    }

    private static String answer(ColourTide tide, String name, String numbers) throws IllegalAccessException {
        String[] parts = numbers.isEmpty() ? new String[0] : numbers.split(", ");
        Object[] arguments = new Object[parts.length];
        for (int i = 0; i < parts.length; i++) {
            arguments[i] = Integer.valueOf(parts[i]);
        }
        for (Method method : ColourTide.class.getMethods()) {
            if (method.getName().equals(name) && method.getParameterCount() == parts.length) {
                try {
                    return String.valueOf(method.invoke(tide, arguments));
                } catch (InvocationTargetException e) {
                    return "throws " + e.getCause().getClass().getSimpleName();
                }
            }
        }
        return "no such call";
    }

    private static void namesEachCall(String readme) {
        StringBuilder table = new StringBuilder();
        for (String line : readme.split("\n")) {
            if (line.startsWith("| `")) {
                table.append(line);
            }
        }
        for (Method method : ColourTide.class.getMethods()) {
            if (method.getDeclaringClass() == ColourTide.class) {
                CHECK.same("the table names " + method.getName(), table.indexOf("`" + method.getName() + "(") >= 0, true);
            }
        }
    }
}
