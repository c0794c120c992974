import java.io.IOException;
import java.lang.reflect.InvocationTargetException;
import java.lang.reflect.Method;
import java.lang.reflect.Modifier;
import java.nio.file.Files;
import java.nio.file.Path;
import java.util.Arrays;
import java.util.HashSet;
import java.util.Set;
import java.util.regex.Matcher;
import java.util.regex.Pattern;

/** Makes the calls of README.md's example, in their order: each answers what its comment begins with. */
public final class ReadmeTest {
    private static final Pattern CALL = Pattern.compile("company\\.(\\w+)\\(([-\\d, ]*)\\);\\s*// (-?\\d+|\\w+Exception)\\b.*");

    public static void main(String[] args) throws IOException, ReflectiveOperationException {
        Check t = new Check();
        StableSale company = new StableSale();
        Set<String> called = new HashSet<>();
        for (String line : Files.readAllLines(Path.of("README.md"))) {
            if (!line.startsWith("company.")) {
                continue;
            }
            Matcher call = CALL.matcher(line);
            if (!call.matches()) {
                t.report("README.md has a call without its answer: " + line);
                continue;
            }
            called.add(call.group(1));
            String answer = answerOf(company, call.group(1), numbersIn(call.group(2)));
            if (!answer.equals(call.group(3))) {
                t.report("README.md says " + line + " but the answer is " + answer);
            }
        }
        eachMethodIsShown(t, called);
        t.end();
    }

    private static int[] numbersIn(String text) {
        return text.isEmpty() ? new int[0] : Arrays.stream(text.split(", ")).mapToInt(Integer::parseInt).toArray();
    }

    private static String answerOf(StableSale company, String name, int[] numbers) throws ReflectiveOperationException {
        Class<?>[] types = new Class<?>[numbers.length];
        Arrays.fill(types, int.class);
        Method method = StableSale.class.getMethod(name, types);
        try {
            return method.invoke(company, Arrays.stream(numbers).boxed().toArray()).toString();
        } catch (InvocationTargetException e) {
            return e.getCause().getClass().getSimpleName();
        }
    }

    private static void eachMethodIsShown(Check t, Set<String> called) {
        for (Method method : StableSale.class.getDeclaredMethods()) {
            boolean seen = Modifier.isPublic(method.getModifiers());
            if (seen && !called.contains(method.getName())) {
                t.report("README.md does not show " + method.getName());
            }
        }
    }
}
