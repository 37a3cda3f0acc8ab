import java.io.IOException;
import java.lang.reflect.Method;
import java.lang.reflect.Modifier;
import java.nio.file.Files;
import java.nio.file.Path;
import java.util.Arrays;
import java.util.regex.Matcher;
import java.util.regex.Pattern;

/** README.md: its example answers as it says there, and it names every call with its parameters. */
public final class ReadmeTest {
    private static final Pattern TEXT = Pattern.compile("String text = \"([^\"]*)\";");
    private static final Pattern CALL = Pattern.compile("(?m)^x\\.(\\w+)\\(([^)]*)\\); +// (-?\\d+):");
    private static final Pattern ROW = Pattern.compile("(?m)^\\| `(\\w+)\\(([^)]*)\\)` \\| \\S.* \\|$");

    public static void main(String[] args) throws IOException, ReflectiveOperationException {
        Check check = new Check("ReadmeTest");
        String page = Files.readString(Path.of("README.md"));
        example(check, page);
        rows(check, page);
        check.holds("it says how to run the tests", page.contains("\n    .ci/run\n"));
        check.end();
    }

    private static void example(Check check, String page) throws ReflectiveOperationException {
        Matcher text = TEXT.matcher(page);
        check.holds("an example's text", text.find());
        TannedMen x = Check.fed(text.group(1));
        Matcher call = CALL.matcher(page);
        int calls = 0;
        while (call.find()) {
            calls++;
            int[] numbers = numbers(call.group(2));
            check.due(call.group(), answer(x, call.group(1), numbers), Integer.parseInt(call.group(3)));
        }
        check.holds("calls with their answers", calls >= 5);
    }

    private static int[] numbers(String list) {
        return list.isEmpty() ? new int[0] : Arrays.stream(list.split(", ")).mapToInt(Integer::parseInt).toArray();
    }

    private static int answer(TannedMen x, String name, int[] numbers) throws ReflectiveOperationException {
        Class<?>[] types = new Class<?>[numbers.length];
        Arrays.fill(types, int.class);
        return (int) TannedMen.class.getMethod(name, types).invoke(x, Arrays.stream(numbers).boxed().toArray());
    }

    private static void rows(Check check, String page) {
        int named = 0;
        Matcher row = ROW.matcher(page);
        while (row.find()) {
            named++;
            int parameters = row.group(2).isEmpty() ? 0 : row.group(2).split(", ").length;
            check.holds("there is " + row.group(1) + " of " + parameters, isCall(row.group(1), parameters));
        }
        int calls = 0;
        for (Method method : TannedMen.class.getDeclaredMethods()) {
            if (Modifier.isPublic(method.getModifiers())) {
                calls++;
                check.holds(method.getName() + " is named", page.contains("\n| `" + method.getName() + "("));
            }
        }
        check.due("a row for each call", named, calls);
    }

    private static boolean isCall(String name, int parameters) {
        for (Method method : TannedMen.class.getDeclaredMethods()) {
            if (method.getName().equals(name) && method.getParameterCount() == parameters) {
                return Modifier.isPublic(method.getModifiers());
            }
        }
        return false;
    }
}
