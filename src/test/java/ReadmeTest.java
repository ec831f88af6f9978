import java.io.File;
import java.io.IOException;
import java.lang.reflect.InvocationTargetException;
import java.lang.reflect.Method;
import java.lang.reflect.Modifier;
import java.nio.file.Files;
import java.nio.file.Path;
import java.util.regex.Matcher;
import java.util.regex.Pattern;

/** The calls that README.md shows answer what it says, and it names each call of the face and each test. */
public final class ReadmeTest {
    private static final Pattern CALL =
        Pattern.compile("x\\.(\\w+)\\(([^)]*)\\); *// (-?\\d+|true|false|throws \\w+)\\b.*");
    private static final Tester T = new Tester();

    public static void main(String[] args) throws IOException, IllegalAccessException {
        String page = Files.readString(Path.of("README.md"));
        int begin = page.indexOf("```java\n");
        int end = page.indexOf("```", begin + 3);
        T.due("README.md has an example", true, begin >= 0 && end > begin);
        example(page.substring(begin + 8, end).split("\n"));
        Matcher text = Pattern.compile("(?m)^    (group .*;)$").matcher(page);
        T.due("README.md shows a text", true, text.find());
        NoughtSums x = Tester.of(text.group(1));
        T.row(text.group(1), x, 23, 3, 3, 3, 3);
        for (Method m : NoughtSums.class.getDeclaredMethods()) {
            if (Modifier.isPublic(m.getModifiers())) {
                T.due("README.md names " + m.getName(), true, page.contains("`" + m.getName() + "("));
            }
        }
        for (String file : new File("src/test/java").list()) {
            if (file.endsWith("Test.java")) {
                T.due("README.md names " + file, true, page.contains("| `" + file.replace(".java", "") + "` |"));
            }
        }
        T.finish();
    }

    private static void example(String[] lines) throws IllegalAccessException {
        T.due("the first line", "NoughtSums x = new NoughtSums();", lines[0]);
        NoughtSums x = new NoughtSums();
        for (int i = 1; i < lines.length; i++) {
            Matcher m = CALL.matcher(lines[i]);
            T.due("a call with its answer: " + lines[i], true, m.matches());
            T.due("README.md's " + lines[i], m.group(3), answer(x, m.group(1), m.group(2)));
        }
    }

    private static String answer(NoughtSums x, String name, String list) throws IllegalAccessException {
        String[] numbers = list.isEmpty() ? new String[0] : list.split(", ");
        Object[] given = new Object[numbers.length];
        for (int i = 0; i < numbers.length; i++) {
            given[i] = Integer.decode(numbers[i]);
        }
        for (Method m : NoughtSums.class.getDeclaredMethods()) {
            if (m.getName().equals(name) && Modifier.isPublic(m.getModifiers())) {
                try {
                    return m.invoke(x, given).toString();
                } catch (InvocationTargetException e) {
                    return "throws " + e.getCause().getClass().getSimpleName();
                }
            }
        }
        return "no such call";
    }
}
