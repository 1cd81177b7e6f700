import java.lang.reflect.Field;
import java.lang.reflect.Method;
import java.lang.reflect.Modifier;
import java.util.Arrays;
import java.util.Set;
import java.util.TreeSet;

/** The class has the face of the document, each method with its exceptions, and nothing beside it. */
final class FaceTest {
    private static final String[] METHODS = {
        "void early(int,int) IllegalArgumentException,IllegalStateException",
        "int ended(int) NoSuchElementException",
        "int hard(int,int) IllegalArgumentException,IllegalStateException",
        "int job(int) IllegalArgumentException,IllegalStateException",
        "int replay(int) IllegalArgumentException,IllegalStateException,UnsupportedOperationException",
        "int served(int,int) IllegalArgumentException",
        "int slack() IllegalStateException",
        "int state(int) IllegalArgumentException",
        "int task(int,int,int,int) IllegalArgumentException,IllegalStateException,UnsupportedOperationException",
        "int tick(int) IllegalArgumentException,IllegalStateException",
        "int trace(int) IndexOutOfBoundsException",
        "boolean rule(int,int,int) IllegalArgumentException,IllegalStateException",
        "void reset() ",
        "void start() IllegalStateException",
    };

    public static void main(String[] args) {
        Check check = new Check();
        Set<String> got = new TreeSet<>();
        Set<String> publicNames = new TreeSet<>();
        for (Method method : ServerDesk.class.getDeclaredMethods()) {
            if (Modifier.isPublic(method.getModifiers())) {
                got.add(told(method));
                publicNames.add(method.getName());
            }
        }
        check.same("the public methods", got.toString(), new TreeSet<>(Arrays.asList(METHODS)).toString());
        for (Method method : ServerDesk.class.getDeclaredMethods()) {
            boolean isPublic = Modifier.isPublic(method.getModifiers());
            boolean isPrivate = Modifier.isPrivate(method.getModifiers());
            check.due(method + " is public or private", isPublic || isPrivate, true);
            check.due(method + " has its name alone", isPrivate && publicNames.contains(method.getName()), false);
        }
        for (Field field : ServerDesk.class.getDeclaredFields()) {
            check.due(field + " is private", Modifier.isPrivate(field.getModifiers()), true);
        }
        check.due("the class is public and final", Modifier.isPublic(ServerDesk.class.getModifiers())
                && Modifier.isFinal(ServerDesk.class.getModifiers()), true);
        check.due("constructors", ServerDesk.class.getDeclaredConstructors().length, 1);
        check.due("public constructors", ServerDesk.class.getConstructors().length, 1);
        check.close();
    }

    private static String told(Method method) {
        StringBuilder text = new StringBuilder();
        text.append(method.getReturnType().getSimpleName()).append(' ').append(method.getName());
        text.append('(').append(names(method.getParameterTypes())).append(") ");
        return text.append(names(method.getExceptionTypes())).toString();
    }

    private static String names(Class<?>[] types) {
        return String.join(",", Arrays.stream(types).map(Class::getSimpleName).toArray(String[]::new));
    }
}
