import java.io.IOException;
import java.lang.reflect.InvocationTargetException;
import java.lang.reflect.Method;
import java.lang.reflect.Modifier;
import java.nio.charset.StandardCharsets;
import java.nio.file.Files;
import java.nio.file.Path;
import java.util.ArrayList;
import java.util.List;
import java.util.Set;
import java.util.TreeSet;
import java.util.regex.Matcher;
import java.util.regex.Pattern;

/** Makes the calls of the examples in README.md and compares what the page says behind them. */
public final class ReadmeTest {
    private static final String NEW_OBJECT = "TaskKernel kernel = new TaskKernel();";
    private static final Pattern CALL = Pattern.compile(
            "kernel\\.(\\w+)\\(([-0-9, ]*)\\); +// (throws \\w+|[^: ]+)(: .*)?");

    private static final Checks checks = new Checks();
    private static final Set<String> shown = new TreeSet<>();

    public static void main(String[] args) {
        List<List<String>> examples = examples();
        for (List<String> example : examples) {
            String title = example.remove(0);
            checks.test("README.md, " + title, () -> run(example));
        }
        checks.test("README.md shows each call", ReadmeTest::showsEachCall);
        checks.test("README.md has an example of each kind", () ->
                checks.due("examples", examples.size(), 5));
        checks.finish();
    }

    /** The blocks of Java in the page; the first line of each is the heading above it. */
    private static List<List<String>> examples() {
        List<List<String>> found = new ArrayList<>();
        List<String> open = null;
        String heading = "";
        for (String line : lines()) {
            if (open != null && line.equals("```")) {
                found.add(open);
                open = null;
            } else if (open != null) {
                open.add(line);
            } else if (line.equals("```java")) {
                open = new ArrayList<>(List.of(heading));
            } else if (line.startsWith("#")) {
                heading = line;
            }
        }
        return found;
    }

    private static List<String> lines() {
        try {
            return Files.readAllLines(Path.of("README.md"), StandardCharsets.US_ASCII);
        } catch (IOException e) {
            throw new IllegalStateException(e);
        }
    }

    private static void run(List<String> example) {
        TaskKernel kernel = null;
        for (String line : example) {
            if (line.equals(NEW_OBJECT)) {
                kernel = new TaskKernel();
                continue;
            }
            Matcher call = CALL.matcher(line);
            checks.due("the form of: " + line, call.matches(), true);
            shown.add(call.group(1));
            checks.due(line, answer(kernel, call.group(1), call.group(2)), call.group(3));
        }
    }

    private static String answer(TaskKernel kernel, String name, String numbers) {
        try {
            Object answer = method(name).invoke(kernel, values(numbers));
            return answer instanceof Character ? "'" + answer + "'" : answer.toString();
        } catch (InvocationTargetException e) {
            Object kind = Checks.kindOf(e.getCause());
            return "throws " + (kind instanceof Class<?> c ? c.getSimpleName() : kind);
        } catch (IllegalAccessException e) {
            throw new IllegalStateException(e);
        }
    }

    private static Method method(String name) {
        for (Method method : TaskKernel.class.getMethods()) {
            if (method.getName().equals(name)) {
                return method;
            }
        }
        throw new IllegalStateException("there is no method " + name);
    }

    private static Object[] values(String numbers) {
        if (numbers.isEmpty()) {
            return new Object[0];
        }
        String[] texts = numbers.split(", ");
        Object[] values = new Object[texts.length];
        for (int i = 0; i < texts.length; i++) {
            values[i] = Integer.valueOf(texts[i]);
        }
        return values;
    }

    private static void showsEachCall() {
        for (Method method : TaskKernel.class.getDeclaredMethods()) {
            if (Modifier.isPublic(method.getModifiers())) {
                checks.due(method.getName() + " is shown", shown.contains(method.getName()), true);
            }
        }
    }
}
