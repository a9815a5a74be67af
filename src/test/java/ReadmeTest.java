import java.io.IOException;
import java.lang.reflect.InvocationTargetException;
import java.lang.reflect.Method;
import java.nio.file.Files;
import java.nio.file.Path;
import java.util.Arrays;
import java.util.regex.Matcher;
import java.util.regex.Pattern;

/** What README.md shows of the class's use is so: each call with an answer behind it is made, and answers that. */
public final class ReadmeTest {
    private static final Pattern MAKING = Pattern.compile("new OrbitBox\\(([^)]*)\\);");
    private static final Pattern CALL = Pattern.compile("^box\\.(\\w+)\\(([^)]*)\\);\\s*// (-?\\w+)");
    private static final Expect expect = new Expect();

    public static void main(String[] args) throws IOException, ReflectiveOperationException {
        OrbitBox box = null;
        int calls = 0;
        for (String line : Files.readAllLines(Path.of("README.md"))) {
            Matcher making = MAKING.matcher(line);
            Matcher call = CALL.matcher(line);
            if (making.find()) {
                box = (OrbitBox) OrbitBox.class.getConstructors()[0].newInstance(numbers(making.group(1)));
            } else if (call.find()) {
                calls++;
                expect.text(line, answer(box, call.group(1), numbers(call.group(2))), call.group(3));
            }
        }
        expect.yes("README.md shows calls", calls > 0);
        for (Method method : OrbitBox.class.getMethods()) {
            expect.yes("README.md shows " + method.getName(), method.getDeclaringClass() != OrbitBox.class
                || Files.readString(Path.of("README.md")).contains("box." + method.getName() + "("));
        }
        expect.end();
    }

    private static Object[] numbers(String list) {
        return list.isEmpty() ? new Object[0]
            : Arrays.stream(list.split(", ")).map(n -> Long.decode(n).intValue()).toArray();
    }

    private static String answer(OrbitBox box, String name, Object[] numbers) throws ReflectiveOperationException {
        Class<?>[] types = new Class<?>[numbers.length];
        Arrays.fill(types, int.class);
        try {
            return OrbitBox.class.getMethod(name, types).invoke(box, numbers).toString();
        } catch (InvocationTargetException thrown) {
            return thrown.getCause().getClass().getSimpleName();
        }
    }
}
