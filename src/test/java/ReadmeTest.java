import java.io.IOException;
import java.lang.reflect.Method;
import java.lang.reflect.Modifier;
import java.nio.charset.StandardCharsets;
import java.nio.file.Files;
import java.nio.file.Path;
import java.util.regex.Matcher;
import java.util.regex.Pattern;

/** README.md's text and calls are answered as it says, and it names every call (run from the project's folder). */
public final class ReadmeTest {
    private static final Checks CHECKS = new Checks("ReadmeTest");

    public static void main(String[] args) throws IOException, ReflectiveOperationException {
        String page = Files.readString(Path.of("README.md"), StandardCharsets.UTF_8);
        AskedCourt court = new AskedCourt();
        String text = first(page, "(?s)```text\n(.*?)```");
        CHECKS.due("README's text", Checks.tell(court, text), Long.parseLong(first(page, "LINES there are, here (\\d+)")));
        Matcher call = Pattern.compile("(?m)^court\\.(\\w+)\\(([-0-9, ]*)\\); +// (-?\\d+|true|false)\\b").matcher(page);
        int calls = 0;
        while (call.find()) {
            CHECKS.dueSame(call.group(), String.valueOf(answer(court, call.group(1), call.group(2))), call.group(3));
            calls++;
        }
        CHECKS.due("README's calls that are compared", calls, page.lines().filter(line -> line.startsWith("court.")).count());
        for (Method method : AskedCourt.class.getDeclaredMethods()) {
            if (Modifier.isPublic(method.getModifiers())) {
                CHECKS.due("README names " + method.getName(), page.contains("`" + method.getName() + "`"), true);
            }
        }
        everyTestIsNamed(page);
        CHECKS.end();
    }

    private static void everyTestIsNamed(String page) throws IOException {
        try (var files = Files.newDirectoryStream(Path.of("src/test/java"), "*Test.java")) {
            for (Path file : files) {
                String name = file.getFileName().toString().replace(".java", "");
                CHECKS.due("README names " + name, Pattern.compile("\\| [^|\n]*\\b" + name + "\\b").matcher(page).find(), true);
            }
        }
    }

    private static String first(String page, String pattern) {
        Matcher found = Pattern.compile(pattern).matcher(page);
        CHECKS.due("README has " + pattern, found.find(), true);
        return found.group(1);
    }

    private static Object answer(AskedCourt court, String name, String numbers) throws ReflectiveOperationException {
        String[] each = numbers.isBlank() ? new String[0] : numbers.split(", *");
        Class<?>[] types = new Class<?>[each.length];
        Object[] values = new Object[each.length];
        for (int i = 0; i < each.length; i++) {
            types[i] = int.class;
            values[i] = Integer.valueOf(each[i]);
        }
        return AskedCourt.class.getMethod(name, types).invoke(court, values);
    }
}
