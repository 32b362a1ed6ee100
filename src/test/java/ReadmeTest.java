import java.io.IOException;
import java.lang.reflect.Method;
import java.nio.file.Files;
import java.nio.file.Path;
import java.util.Set;
import java.util.TreeSet;
import java.util.regex.Matcher;
import java.util.regex.Pattern;

/** The example of README.md: each call answers what stands behind it. */
public final class ReadmeTest {
    private static final Path README = Path.of("README.md");
    private static final String MAKE = "OutOrder x = new OutOrder();";
    private static final Pattern CALL = Pattern.compile("x\\.(\\w+)\\(([^)]*)\\);\\s+// (\\S+)(\\s.*)?");

    private final Checks checks = new Checks();
    private final Set<String> used = new TreeSet<>();
    private OutOrder x;

    public static void main(String[] args) throws IOException, ReflectiveOperationException {
        ReadmeTest test = new ReadmeTest();
        boolean example = false;
        for (String line : Files.readAllLines(README)) {
            if (line.startsWith("```")) {
                example = line.equals("```java");
            } else if (example) {
                test.run(line);
            }
        }
        test.everyMethodIsShown();
        test.checks.end();
    }

    private void run(String line) throws ReflectiveOperationException {
        if (line.equals(MAKE)) {
            x = new OutOrder();
            return;
        }
        Matcher call = CALL.matcher(line);
        if (!call.matches() || x == null) {
            checks.failed("a line that is no call with its answer: " + line);
            return;
        }
        String answer = answer(call.group(1), call.group(2));
        boolean same = answer.equals(call.group(3));
        checks.due(line + " (it answers " + answer + ") is right", same, true);
    }

    private String answer(String name, String list) throws ReflectiveOperationException {
        used.add(name);
        String[] texts = list.isEmpty() ? new String[0] : list.split(", ");
        for (Method m : OutOrder.class.getMethods()) {
            if (m.getDeclaringClass() == OutOrder.class && m.getName().equals(name)
                    && m.getParameterCount() == texts.length) {
                return String.valueOf(m.invoke(x, values(m.getParameterTypes(), texts)));
            }
        }
        return "nothing, since there is no such method";
    }

    private static Object[] values(Class<?>[] types, String[] texts) {
        Object[] values = new Object[texts.length];
        for (int i = 0; i < texts.length; i++) {
            if (types[i] == boolean.class) {
                values[i] = Boolean.valueOf(texts[i]);
            } else {
                values[i] = Integer.valueOf(texts[i]);
            }
        }
        return values;
    }

    private void everyMethodIsShown() {
        for (Method m : OutOrder.class.getMethods()) {
            if (m.getDeclaringClass() == OutOrder.class) {
                checks.due("README.md shows " + m.getName() + "()", used.contains(m.getName()), true);
            }
        }
    }
}
