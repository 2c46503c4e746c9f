import java.io.IOException;
import java.lang.reflect.Method;
import java.nio.file.Files;
import java.nio.file.Path;
import java.util.Arrays;
import java.util.regex.Matcher;
import java.util.regex.Pattern;

/** The calls that README.md tells, in their order on one object: each answers the number behind it. */
public final class ReadmeTest {
    private static final Pattern TEXT = Pattern.compile("String text = \"([^\"]*)\"");
    private static final Pattern CALL = Pattern.compile("^x\\.(\\w+)\\(([-0-9, ]*)\\); +// (-?[0-9]+)", Pattern.MULTILINE);

    private static final Check check = new Check();

    public static void main(String[] args) throws IOException, ReflectiveOperationException {
        String page = Files.readString(Path.of("README.md"));
        Matcher text = TEXT.matcher(page);
        check.due("a text is told", text.find() ? 1 : 0, 1);
        SignDuty x = Check.feed(new SignDuty(), text.group(1));
        int calls = 0;
        Matcher told = CALL.matcher(page);
        while (told.find()) {
            calls++;
            check.due(told.group(), answer(x, told.group(1), numbers(told.group(2))), Integer.parseInt(told.group(3)));
        }
        check.due("each call is told with its answer", calls, page.split("\nx\\.", -1).length - 1);
        check.end();
    }

    private static Object[] numbers(String arguments) {
        String[] parts = arguments.isEmpty() ? new String[0] : arguments.split(", ");
        Object[] numbers = new Object[parts.length];
        for (int i = 0; i < parts.length; i++) {
            numbers[i] = Integer.valueOf(parts[i]);
        }
        return numbers;
    }

    private static int answer(SignDuty x, String name, Object[] numbers) throws ReflectiveOperationException {
        Class<?>[] types = new Class<?>[numbers.length];
        Arrays.fill(types, int.class);
        Method method = SignDuty.class.getMethod(name, types);
        return (Integer) method.invoke(x, numbers);
    }
}
