import java.io.IOException;
import java.lang.reflect.InvocationTargetException;
import java.lang.reflect.Method;
import java.lang.reflect.Modifier;
import java.nio.file.Files;
import java.nio.file.Path;
import java.util.Set;
import java.util.TreeSet;
import java.util.regex.Matcher;
import java.util.regex.Pattern;

/** README.md tells every call of the face, and the calls of its example answer as it says. */
final class ReadmeTest {
    private static final Check check = new Check("ReadmeTest");
    private static final Pattern CALL =
            Pattern.compile("book\\.(\\w+)\\((.*?)\\); +// (-?\\d+|true|false|Illegal\\w+): .*");

    public static void main(String[] args) throws IOException, ReflectiveOperationException {
        String readme = Files.readString(Path.of("README.md"));
        everyCallIsTold(readme);
        check.due("README tells NONE", readme.contains("`NONE` is " + CallBook.NONE), true);
        check.due("README tells how tests are run", readme.contains("\n    .ci/run\n"), true);
        int from = readme.indexOf("```java\n") + "```java\n".length();
        exampleHolds(readme.substring(from, readme.indexOf("```\n", from)));
        check.end();
    }

    private static void everyCallIsTold(String readme) {
        check.due("README tells the constructor", readme.contains("\n- `CallBook()`: "), true);
        for (Method method : CallBook.class.getDeclaredMethods()) {
            if (Modifier.isPublic(method.getModifiers())) {
                String parameters = "\\w+, ".repeat(method.getParameterCount()).replaceAll(", $", "");
                Pattern told = Pattern.compile("\n- `" + method.getName() + "\\(" + parameters + "\\)`: ");
                check.due("README tells " + method.getName(), told.matcher(readme).find(), true);
            }
        }
    }

    private static void exampleHolds(String example) throws ReflectiveOperationException {
        String[] lines = example.split("\n");
        check.due("makes an object: " + lines[0], lines[0].equals("CallBook book = new CallBook();"), true);
        CallBook book = new CallBook();
        Set<String> called = new TreeSet<>();
        for (int i = 1; i < lines.length; i++) {
            Matcher call = CALL.matcher(lines[i]);
            boolean readable = call.matches();
            check.due("is a call with an answer: " + lines[i], readable, true);
            if (readable) {
                String answer = answer(book, method(call.group(1)), call.group(2));
                check.due(lines[i] + " answered " + answer, answer.equals(call.group(3)), true);
                called.add(call.group(1));
            }
        }
        for (Method method : CallBook.class.getDeclaredMethods()) {
            if (Modifier.isPublic(method.getModifiers())) {
                check.due("the example calls " + method.getName(), called.contains(method.getName()), true);
            }
        }
    }

    private static Method method(String name) {
        for (Method method : CallBook.class.getDeclaredMethods()) {
            if (Modifier.isPublic(method.getModifiers()) && method.getName().equals(name)) {
                return method;
            }
        }
        throw new IllegalArgumentException("README calls " + name);
    }

    private static String answer(CallBook book, Method method, String written) throws IllegalAccessException {
        String[] texts = written.isEmpty() ? new String[0] : written.split(", ");
        Class<?>[] kinds = method.getParameterTypes();
        Object[] values = new Object[texts.length];
        for (int i = 0; i < texts.length; i++) {
            boolean truth = i < kinds.length && kinds[i] == boolean.class;
            values[i] = truth ? (Object) Boolean.valueOf(texts[i]) : Integer.valueOf(texts[i]);
        }
        try {
            return String.valueOf(method.invoke(book, values));
        } catch (InvocationTargetException e) {
            return e.getCause().getClass().getSimpleName();
        }
    }
}
