import java.io.IOException;
import java.lang.reflect.Method;
import java.lang.reflect.Modifier;
import java.nio.file.Files;
import java.nio.file.Path;
import java.util.List;
import java.util.regex.Matcher;
import java.util.regex.Pattern;

/**
 * README.md says how to use the class: the calls of its example answer what the comments beside them
 * say, and each call of the class stands in its table, with the names of its parameters.
 */
public final class ReadmeTest extends TestBase {
    /** A call, and the answer, or the name of the exception, in the comment beside it. */
    private static final Pattern CALL = Pattern.compile("x\\.(\\w+)\\((.*)\\); *// *([-\\w]+).*");

    private static final int LEAST_CALLS = 15;

    private static int[] parsed(String arguments) {
        String[] parts = arguments.isEmpty() ? new String[0] : arguments.split(", ");
        int[] result = new int[parts.length];
        for (int i = 0; i < result.length; i++) {
            result[i] = parts[i].startsWith("'") ? parts[i].charAt(1) : Integer.parseInt(parts[i]);
        }
        return result;
    }

    private static String answer(SturmRoots x, String name, int[] arguments) {
        Object got = outcome(() -> call(x, name, arguments));
        return got instanceof Class ? ((Class<?>) got).getSimpleName() : String.valueOf(got);
    }

    private static void example(List<String> lines) {
        SturmRoots x = new SturmRoots();
        int calls = 0;
        for (String line : lines) {
            Matcher matcher = CALL.matcher(line);
            if (matcher.matches()) {
                calls++;
                due(line, matcher.group(3), () -> answer(x, matcher.group(1), parsed(matcher.group(2))));
            } else {
                due("a line of the example that is no call: " + line, false, () -> line.startsWith("x."));
            }
        }
        int found = calls;
        due("whether the example was found", true, () -> found >= LEAST_CALLS);
    }

    private static void table(String text) {
        for (Method method : SturmRoots.class.getDeclaredMethods()) {
            if (Modifier.isPublic(method.getModifiers())) {
                int count = method.getParameterCount();
                Pattern inTable = Pattern.compile("`" + method.getName() + "\\("
                        + (count == 0 ? "" : "\\w+(, \\w+){" + (count - 1) + "}") + "\\)`");
                due("whether the table has " + method.getName(), true, () -> inTable.matcher(text).find());
            }
        }
    }

    public static void main(String[] args) throws IOException {
        Path readme = Path.of("README.md");
        begin("README.md");
        example(Files.readAllLines(readme));
        table(Files.readString(readme));
        finish();
    }
}
