import java.io.IOException;
import java.lang.reflect.Method;
import java.lang.reflect.Modifier;
import java.nio.file.Files;
import java.nio.file.Path;
import java.util.regex.Matcher;
import java.util.regex.Pattern;

/** What README.md shows is so: its calls are made, one behind another, on one object. */
public final class ReadmeTest {
    private static final Pattern CALL = Pattern.compile("x\\.(\\w+)\\(([^)]*)\\); +// (-?\\w+).*");
    private static final Pattern TEXT = Pattern.compile("type\\(\"([^\"]*)\"\\);");
    private static final String NEW = "MarginBooks x = new MarginBooks();";

    private MarginBooks x = new MarginBooks();
    private int made;

    private ReadmeTest() {
    }

    public static void main(String[] args) throws ReflectiveOperationException, IOException {
        String page = Files.readString(Path.of("README.md"));
        ReadmeTest test = new ReadmeTest();
        Matcher block = Pattern.compile("(?s)```java\n(.*?)```").matcher(page);
        while (block.find()) {
            for (String line : block.group(1).split("\n")) {
                test.line(line);
            }
        }
        Due.holds("README.md shows calls", test.made > 0);
        everyCall(page);
        Due.close();
    }

    private void line(String line) throws ReflectiveOperationException {
        Matcher call = CALL.matcher(line);
        Matcher text = TEXT.matcher(line);
        if (call.matches()) {
            made++;
            Due.is(line, answer(call.group(1), call.group(2)), number(call.group(3)));
        } else if (text.matches()) {
            Due.type(x, text.group(1));
        } else {
            Due.holds("this test knows " + line, line.equals(NEW));
            x = new MarginBooks();
        }
    }

    private long answer(String name, String told) throws ReflectiveOperationException {
        String[] words = told.isEmpty() ? new String[0] : told.split(", ");
        Class<?>[] types = new Class<?>[words.length];
        Object[] numbers = new Object[words.length];
        for (int i = 0; i < words.length; i++) {
            types[i] = int.class;
            numbers[i] = Integer.valueOf(words[i]);
        }
        Object answer = MarginBooks.class.getMethod(name, types).invoke(x, numbers);
        return ((Number) answer).longValue();
    }

    private static long number(String word) throws ReflectiveOperationException {
        return word.matches("-?\\d+") ? Long.parseLong(word)
                : MarginBooks.class.getField(word).getInt(null);
    }

    private static void everyCall(String page) {
        for (Method m : MarginBooks.class.getDeclaredMethods()) {
            if (Modifier.isPublic(m.getModifiers())) {
                Due.holds("README.md tells of " + m.getName(), page.contains("`" + m.getName() + "("));
            }
        }
    }
}
