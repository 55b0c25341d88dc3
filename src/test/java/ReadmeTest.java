import java.io.IOException;
import java.lang.reflect.Method;
import java.lang.reflect.Modifier;
import java.nio.file.Files;
import java.nio.file.Path;
import java.util.regex.Matcher;
import java.util.regex.Pattern;

/** README.md's example answers what it says, and the page names each call. */
public final class ReadmeTest {
    private static final Pattern TOLD = Pattern.compile("\"([^\"]*)\"\\.toCharArray");
    private static final Pattern ROW = Pattern.compile("(?m)^x\\.(\\w+)\\(([^)]*)\\); +// (-?\\d+): ");

    public static void main(String[] args) throws IOException, ReflectiveOperationException {
        String page = Files.readString(Path.of("README.md"));
        Check check = new Check();
        check.due("README.md's example: rows with an answer", example(page, check), 11);
        for (Method m : StillMinutes.class.getDeclaredMethods()) {
            if (Modifier.isPublic(m.getModifiers())) {
                check.due("README.md names " + m.getName(), page.contains("`" + m.getName() + "`") ? 1 : 0, 1);
            }
        }
        check.end();
    }

    private static int example(String page, Check check) throws ReflectiveOperationException {
        StillMinutes x = new StillMinutes();
        Matcher told = TOLD.matcher(page);
        if (told.find()) {
            Check.type(x, told.group(1));
        }
        int rows = 0;
        Matcher row = ROW.matcher(page);
        while (row.find()) {
            rows++;
            check.due("README.md: " + row.group(1) + "(" + row.group(2) + ")",
                answer(x, row.group(1), row.group(2)), Long.parseLong(row.group(3)));
        }
        return rows;
    }

    private static long answer(StillMinutes x, String name, String numbers) throws ReflectiveOperationException {
        String[] parts = numbers.isEmpty() ? new String[0] : numbers.split(", ");
        Class<?>[] types = new Class<?>[parts.length];
        Object[] values = new Object[parts.length];
        for (int i = 0; i < parts.length; i++) {
            types[i] = int.class;
            values[i] = Integer.valueOf(parts[i]);
        }
        return ((Number) StillMinutes.class.getMethod(name, types).invoke(x, values)).longValue();
    }
}
