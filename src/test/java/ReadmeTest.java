import java.io.File;
import java.io.IOException;
import java.lang.reflect.InvocationTargetException;
import java.lang.reflect.Method;
import java.lang.reflect.Modifier;
import java.nio.charset.StandardCharsets;
import java.nio.file.Files;
import java.nio.file.Path;
import java.util.HashMap;
import java.util.Map;
import java.util.regex.Matcher;
import java.util.regex.Pattern;

/** README.md's example answers as it says, and the page names every call and every test. Runs in the project's folder. */
public final class ReadmeTest {
    private static final Due due = new Due("ReadmeTest");
    private static final Pattern CALL =
        Pattern.compile("(?:int (\\w+) = )?press\\.(\\w+)\\(([^)]*)\\); // (-?\\d+): .+");
    private static final String MADE = "DirtPress press = new DirtPress();";

    private final DirtPress press = new DirtPress();
    private final Map<String, Long> names = new HashMap<>();
    private int calls;

    public static void main(String[] args) throws IOException, ReflectiveOperationException {
        String page = Files.readString(Path.of("README.md"), StandardCharsets.US_ASCII);
        new ReadmeTest().example(page);
        namesAll(page);
        due.end();
    }

    private void example(String page) throws ReflectiveOperationException {
        int from = page.indexOf("```java\n");
        int to = page.indexOf("\n```", from + 1);
        due.is("there is an example", from >= 0 && to > from ? 1 : 0, 1);
        if (from < 0 || to <= from) {
            return;
        }
        String[] lines = page.substring(from + "```java\n".length(), to).split("\n");
        due.is("its first line", lines[0], MADE);
        for (int i = 1; i < lines.length; i++) {
            line(lines[i]);
        }
        due.is("it has calls", calls > 20 ? 1 : 0, 1);
    }

    private void line(String line) throws ReflectiveOperationException {
        Matcher parts = CALL.matcher(line);
        due.is("a line that can be read: " + line, parts.matches() ? 1 : 0, 1);
        if (!parts.matches()) {
            return;
        }
        long got = answer(parts.group(2), parts.group(3).isEmpty() ? new String[0] : parts.group(3).split(", "));
        calls++;
        due.is(line, got, Long.parseLong(parts.group(4)));
        if (parts.group(1) != null) {
            names.put(parts.group(1), got);
        }
    }

    private long answer(String name, String[] told) throws ReflectiveOperationException {
        for (Method call : DirtPress.class.getDeclaredMethods()) {
            if (call.getName().equals(name) && call.getParameterCount() == told.length) {
                return called(call, told);
            }
        }
        throw new NoSuchMethodException(name);
    }

    private int called(Method call, String[] told) throws IllegalAccessException, InvocationTargetException {
        Object[] given = new Object[told.length];
        for (int i = 0; i < told.length; i++) {
            long v = names.containsKey(told[i]) ? names.get(told[i]) : Long.decode(told[i].replace("L", ""));
            if (call.getParameterTypes()[i] == long.class) {
                given[i] = v;
            } else {
                given[i] = (int) v;
            }
        }
        return (Integer) call.invoke(press, given);
    }

    private static void namesAll(String page) {
        for (Method call : DirtPress.class.getDeclaredMethods()) {
            if (Modifier.isPublic(call.getModifiers())) {
                due.is("it names " + call.getName(), page.contains("`" + call.getName() + "`") ? 1 : 0, 1);
            }
        }
        String[] files = new File("src/test/java").list();
        due.is("there are tests", files != null && files.length > 0 ? 1 : 0, 1);
        for (String file : files == null ? new String[0] : files) {
            String name = file.replace(".java", "");
            due.is("it names " + name, page.contains("`" + name + "`") ? 1 : 0, 1);
        }
    }
}
