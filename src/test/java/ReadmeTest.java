import java.io.IOException;
import java.lang.reflect.InvocationTargetException;
import java.lang.reflect.Method;
import java.lang.reflect.Modifier;
import java.nio.file.DirectoryStream;
import java.nio.file.Files;
import java.nio.file.Path;
import java.util.Set;
import java.util.TreeSet;
import java.util.regex.Matcher;
import java.util.regex.Pattern;

/** README.md: its answers are so, and it tells all calls and all tests, and no others. */
public final class ReadmeTest {
    private static final Pattern ASKED = Pattern.compile("x\\.(\\w+)\\(([^)]*)\\); *// (-?\\d+): .+");
    private static final Pattern TOLD = Pattern.compile("for \\(char c : \"(\\w+)\"\\.toCharArray\\(\\)\\) x\\.write\\(c\\);");

    public static void main(String[] args) throws IOException, IllegalAccessException {
        String readme = Files.readString(Path.of("README.md"));
        example(readme);
        calls(readme);
        tests(readme);
        Due.end();
    }

    private static void example(String readme) throws IllegalAccessException {
        Matcher block = Pattern.compile("(?s)```java\n(.*?)```").matcher(readme);
        Due.due("an example", block.find() ? 1 : 0, 1);
        WhistleBack x = new WhistleBack();
        int answers = 0;
        for (String line : block.group(1).split("\n")) {
            Matcher told = TOLD.matcher(line);
            Matcher asked = ASKED.matcher(line);
            if (told.matches()) {
                Due.tell(x, told.group(1));
            } else if (asked.matches()) {
                Due.due(line, answer(x, asked.group(1), asked.group(2)), Long.parseLong(asked.group(3)));
                answers++;
            } else if (!line.isEmpty()) {
                Due.same("a line", line, "WhistleBack x = new WhistleBack();");
            }
        }
        Due.due("some answers", answers > 20 ? 1 : 0, 1);
    }

    private static long answer(WhistleBack x, String name, String told) throws IllegalAccessException {
        String[] values = told.isEmpty() ? new String[0] : told.split(", ");
        for (Method m : WhistleBack.class.getDeclaredMethods()) {
            Class<?>[] takes = m.getParameterTypes();
            if (!m.getName().equals(name) || takes.length != values.length) continue;
            Object[] given = new Object[takes.length];
            for (int i = 0; i < takes.length; i++) given[i] = value(takes[i], values[i]);
            try {
                return ((Number) m.invoke(x, given)).longValue();
            } catch (InvocationTargetException thrown) {
                throw new IllegalStateException(thrown.getCause());
            }
        }
        throw new IllegalArgumentException("no such call: " + name);
    }

    private static Object value(Class<?> type, String told) {
        if (type == boolean.class) return Boolean.valueOf(told);
        if (type == long.class) return Long.valueOf(told);
        return Integer.valueOf(told);
    }

    private static void calls(String readme) {
        Set<String> there = new TreeSet<>();
        for (Method m : WhistleBack.class.getDeclaredMethods()) {
            if (Modifier.isPublic(m.getModifiers())) there.add(m.getName() + ", " + m.getParameterCount());
        }
        Set<String> told = new TreeSet<>();
        Matcher row = Pattern.compile("(?m)^\\| `(\\w+)\\(([^)]*)\\)` \\|").matcher(readme);
        while (row.find()) told.add(row.group(1) + ", " + (row.group(2).isEmpty() ? 0 : row.group(2).split(",").length));
        Due.same("the calls", told.toString(), there.toString());
    }

    private static void tests(String readme) throws IOException {
        Set<String> there = new TreeSet<>();
        try (DirectoryStream<Path> files = Files.newDirectoryStream(Path.of("src/test/java"), "*Test.java")) {
            for (Path file : files) there.add(file.getFileName().toString().replace(".java", ""));
        }
        Set<String> told = new TreeSet<>();
        Matcher row = Pattern.compile("(?m)^\\| (\\w+Test) \\|").matcher(readme);
        while (row.find()) told.add(row.group(1));
        Due.same("the tests", told.toString(), there.toString());
    }
}
