import java.io.IOException;
import java.lang.reflect.Method;
import java.nio.charset.StandardCharsets;
import java.nio.file.Files;
import java.nio.file.Path;
import java.util.regex.Matcher;
import java.util.regex.Pattern;

/** The calls that README.md shows answer what it says. */
public final class ReadmeTest {
    private static final Pattern CALL = Pattern.compile("(?m)^shop\\.(\\w+)\\(([^)]*)\\); *// (-?\\d+)");
    private static final Checks checks = new Checks();

    public static void main(String[] args) throws IOException, ReflectiveOperationException {
        String text = Files.readString(Path.of("README.md"), StandardCharsets.UTF_8);
        PencilPrice shop = new PencilPrice();
        Matcher call = CALL.matcher(text);
        long found = 0;
        while (call.find()) {
            found++;
            long answer = answer(shop, call.group(1), call.group(2));
            checks.due(call.group(1) + "(" + call.group(2) + ")", Long.parseLong(call.group(3)), answer);
        }
        checks.due("calls with an answer", text.lines().filter(line -> line.startsWith("shop.")).count(), found);
        checks.due("there are calls", found > 0);
        checks.end();
    }

    private static long answer(PencilPrice shop, String name, String row) throws ReflectiveOperationException {
        String[] numbers = row.isEmpty() ? new String[0] : row.split(", ");
        Class<?>[] types = new Class<?>[numbers.length];
        Object[] arguments = new Object[numbers.length];
        for (int i = 0; i < numbers.length; i++) {
            types[i] = int.class;
            arguments[i] = Integer.decode(numbers[i]);
        }
        Method method = PencilPrice.class.getMethod(name, types);
        return ((Number) method.invoke(shop, arguments)).longValue();
    }
}
