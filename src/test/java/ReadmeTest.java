import java.io.IOException;
import java.lang.reflect.InvocationTargetException;
import java.lang.reflect.Method;
import java.lang.reflect.Modifier;
import java.nio.file.Files;
import java.nio.file.Path;
import java.util.Set;
import java.util.TreeSet;
import java.util.regex.Matcher;
import java.util.regex.Pattern;

/** The example of README.md: each call answers what stands behind it, and each method is called. */
final class ReadmeTest {
    private static final Pattern CALL =
            Pattern.compile("desk\\.(\\w+)\\(([-0-9, ]*)\\); +// (nothing|true|false|-?\\d+|throws \\w+): .+");

    private final Check check = new Check();
    private final ServerDesk desk = new ServerDesk();
    private final Set<String> called = new TreeSet<>();

    public static void main(String[] args) throws IOException {
        ReadmeTest test = new ReadmeTest();
        for (String line : Files.readAllLines(Path.of("README.md"))) {
            if (line.startsWith("desk.")) {
                test.follow(line);
            }
        }
        test.check.same("the methods of the example", test.called.toString(), face().toString());
        test.check.close();
    }

    private void follow(String line) {
        Matcher told = CALL.matcher(line);
        check.due(line + " can be read", told.matches(), true);
        if (told.matches()) {
            called.add(told.group(1));
            check.same(line, answer(told.group(1), told.group(2)), told.group(3));
        }
    }

    private String answer(String name, String numbers) {
        Object[] arguments = Pattern.compile("-?\\d+").matcher(numbers).results()
                .map(number -> Integer.valueOf(number.group())).toArray();
        try {
            Object answer = methodOf(name).invoke(desk, arguments);
            return answer == null ? "nothing" : answer.toString();
        } catch (InvocationTargetException e) {
            return "throws " + e.getCause().getClass().getSimpleName();
        } catch (ReflectiveOperationException | IllegalArgumentException e) {
            return "no such call";
        }
    }

    private static Method methodOf(String name) throws NoSuchMethodException {
        for (Method method : ServerDesk.class.getDeclaredMethods()) {
            if (method.getName().equals(name) && Modifier.isPublic(method.getModifiers())) {
                return method;
            }
        }
        throw new NoSuchMethodException(name);
    }

    private static Set<String> face() {
        Set<String> names = new TreeSet<>();
        for (Method method : ServerDesk.class.getDeclaredMethods()) {
            if (Modifier.isPublic(method.getModifiers())) {
                names.add(method.getName());
            }
        }
        return names;
    }
}
